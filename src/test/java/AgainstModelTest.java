import java.util.Map;
import java.util.TreeMap;
import java.util.concurrent.Callable;

/** Long runs of calls of every kind, each answer compared with the model's. */
public final class AgainstModelTest {
    private static final int RUNS = 400;
    private static final int CALLS = 512;
    private static final int KINDS = 36;

    private final Check check;
    private final Map<String, Integer> seen;
    private final SliceCoder x = new SliceCoder();
    private final Model model = new Model();
    private final int run;
    private long seed;

    private AgainstModelTest(Check check, Map<String, Integer> seen, int run) {
        this.check = check;
        this.seen = seen;
        this.run = run;
        this.seed = run;
    }

    public static void main(String[] args) {
        Check check = new Check();
        Map<String, Integer> seen = new TreeMap<>();
        for (int run = 0; run < RUNS; run++) {
            AgainstModelTest test = new AgainstModelTest(check, seen, run);
            for (int i = 0; i < CALLS; i++) {
                test.anyCall();
            }
        }
        // Runs that never reach an answer of some kind would compare nothing there.
        check.due("kinds of answers that were seen", seen.size(), KINDS);
        if (seen.size() != KINDS) {
            System.out.println(seen);
        }
        check.end();
    }

    private void anyCall() {
        int form = form();
        int operand = operand();
        switch (below(16)) {
            case 0 -> rarelyClear(form);
            case 1 -> tellOperand(form, operand);
            case 3 -> tellFixed(form);
            case 2, 4, 5, 6 -> tellMissing(form, operand);
            case 7 -> tellSlice(form, operand, oddBit(), oddBit());
            case 8 -> same("whole", "" + form, () -> x.whole(form), () -> model.whole(form));
            case 9 -> tellNumber(operand);
            case 10 -> askFits(form, operand, number());
            case 11 -> same("encode", "" + form, () -> x.encode(form), () -> model.encode(form));
            case 12 -> askIs(form, word(form));
            case 13 -> askDecode(form, operand, word(form));
            case 14 -> askMeet(form, form());
            default -> askCount(form, below(20) == 0 ? oddBit() : below(4));
        }
    }

    private void rarelyClear(int form) {
        if (below(2) == 0) {
            same("clear", "" + form, () -> { x.clear(form); return "done"; }, () -> model.clear(form));
        } else {
            askCount(form, 3);
        }
    }

    private void tellOperand(int form, int operand) {
        int n = below(6) == 0 ? oddBit() : 1 + below(9);
        boolean sign = below(2) == 0;
        same("operand", form + ", " + operand + ", " + n + ", " + sign,
                () -> { x.operand(form, operand, n, sign); return "done"; },
                () -> model.operand(form, operand, n, sign));
    }

    private void tellFixed(int form) {
        int n = below(4) == 0 ? oddBit() : 1 + below(5);
        long v = number();
        same("fixed", form + ", " + n + ", " + v, () -> x.fixed(form, n, v), () -> model.fixed(form, n, v));
    }

    /** A slice upwards from a missing bit, for forms to become whole. */
    private void tellMissing(int form, int operand) {
        int tried = form >= 0 && form < 8 ? model.operandWithMissing(form, operand) : operand;
        if (form < 0 || form >= 8 || tried < 0 || tried >= 6) {
            tellSlice(form, tried, 0, 0);
            return;
        }
        int low = Math.max(0, model.lowestMissing(form, tried));
        int most = model.width(form, tried) - 1 - low;
        int more = below(3) == 0 ? below(8) : most;
        tellSlice(form, tried, low + Math.max(0, Math.min(more, most)), low);
    }

    private void tellSlice(int form, int operand, int high, int low) {
        same("slice", form + ", " + operand + ", " + high + ", " + low,
                () -> x.slice(form, operand, high, low), () -> model.slice(form, operand, high, low));
    }

    private void tellNumber(int k) {
        long v = below(2) == 0 ? below(2) : number();
        same("number", k + ", " + v, () -> { x.number(k, v); return "done"; }, () -> model.number(k, v));
    }

    private void askFits(int form, int operand, long v) {
        same("fits", form + ", " + operand + ", " + v,
                () -> x.fits(form, operand, v), () -> model.fits(form, operand, v));
    }

    private void askIs(int form, long word) {
        same("is", form + ", " + word, () -> x.is(form, word), () -> model.is(form, word));
    }

    private void askDecode(int form, int operand, long word) {
        same("decode", form + ", " + operand + ", " + word,
                () -> x.decode(form, operand, word), () -> model.decode(form, operand, word));
    }

    private void askMeet(int a, int b) {
        same("meet", a + ", " + b, () -> x.meet(a, b), () -> model.meet(a, b));
    }

    private void askCount(int form, int what) {
        same("count", form + ", " + what, () -> x.count(form, what), () -> model.count(form, what));
    }

    private void same(String call, String arguments, Callable<?> asked, Callable<?> due) {
        String expected = Check.answer(due);
        boolean named = expected.startsWith("throws") || expected.equals("true") || expected.equals("false");
        seen.merge(call + (named ? " " + expected : " a value"), 1, Integer::sum);
        check.due("run " + run + ": " + call + "(" + arguments + ")", asked, expected);
    }

    private int form() {
        return below(40) == 0 ? oddBit() : below(3) == 0 ? below(8) : 7 * below(2);
    }

    private int operand() {
        return below(40) == 0 ? oddBit() : below(2) == 0 ? below(6) : 5 * below(2);
    }

    private int oddBit() {
        int[] odd = {-1, 0, 1, 2, 5, 6, 7, 8, 31, 32, 33, 62, 63, 64, 65, Integer.MIN_VALUE, Integer.MAX_VALUE};
        return odd[below(odd.length)];
    }

    private long number() {
        long near = (1L << below(below(2) == 0 ? 64 : 9)) - below(3);
        return below(2) == 0 ? near : below(2) == 0 ? -near : bits();
    }

    private long word(int form) {
        if (form < 0 || form > 7 || below(4) == 0) {
            return number();
        }
        long of = model.wordNear(form, bits());
        return below(3) == 0 ? of ^ (1L << below(64)) : of;
    }

    private int below(int end) {
        return (int) Long.remainderUnsigned(bits() >>> 8, end);
    }

    /** A counter whose bits are well mixed: the same runs every time. */
    private long bits() {
        seed += 0x9E3779B97F4A7C15L;
        long z = seed * 31 + run;
        z = (z ^ (z >>> 30)) * 0xBF58476D1CE4E5B9L;
        z = (z ^ (z >>> 27)) * 0x94D049BB133111EBL;
        return z ^ (z >>> 31);
    }
}
