import java.util.ArrayList;
import java.util.List;
import java.util.function.Consumer;
import java.util.function.Supplier;

/** 'A call that throws changes nothing': every exception that a promise names, alone and one after another. */
public final class RefusedTest {
    private record Refusal(String what, Consumer<SliceCoder> call, String due) {
    }

    private final List<Refusal> always = new ArrayList<>();
    private final List<Refusal> ofSample = new ArrayList<>();

    private RefusedTest() {
        for (int form : Check.WRONG_FORMS) {
            addWrongForm(form);
        }
        for (int operand : Check.WRONG_OPERANDS) {
            addWrongOperand(operand);
        }
        for (int n : Check.WRONG_BIT_COUNTS) {
            add(always, "operand(6, 4, " + n + ")", x -> x.operand(6, 4, n, true), Check.ARGUMENT);
            add(always, "fixed(6, " + n + ")", x -> x.fixed(6, n, -1), Check.ARGUMENT);
        }
        for (int what : new int[] {-1, 4, Integer.MIN_VALUE, Integer.MAX_VALUE}) {
            add(always, "count(0, " + what + ")", x -> x.count(0, what), Check.ARGUMENT);
        }
        addRefusalsOfSample();
    }

    private void addWrongForm(int form) {
        String name = "(" + form;
        add(always, "clear" + name, x -> x.clear(form), Check.ARGUMENT);
        add(always, "operand" + name + ", 1, 8)", x -> x.operand(form, 1, 8, true), Check.ARGUMENT);
        add(always, "fixed" + name + ", 1)", x -> x.fixed(form, 1, 1), Check.ARGUMENT);
        add(always, "slice" + name + ", 2, 0, 0)", x -> x.slice(form, 2, 0, 0), Check.ARGUMENT);
        add(always, "whole" + name + ")", x -> x.whole(form), Check.ARGUMENT);
        add(always, "fits" + name + ", 0, 0)", x -> x.fits(form, 0, 0), Check.ARGUMENT);
        add(always, "encode" + name + ")", x -> x.encode(form), Check.ARGUMENT);
        add(always, "is" + name + ", 0)", x -> x.is(form, 0), Check.ARGUMENT);
        add(always, "decode" + name + ", 0, 98099)", x -> x.decode(form, 0, 98099), Check.ARGUMENT);
        add(always, "meet" + name + ", 0)", x -> x.meet(form, 0), Check.ARGUMENT);
        add(always, "meet(0, " + form + ")", x -> x.meet(0, form), Check.ARGUMENT);
        add(always, "count" + name + ", 0)", x -> x.count(form, 0), Check.ARGUMENT);
    }

    private void addWrongOperand(int operand) {
        String name = "(0, " + operand;
        add(always, "operand" + name + ", 8)", x -> x.operand(0, operand, 8, true), Check.ARGUMENT);
        add(always, "slice" + name + ", 0, 0)", x -> x.slice(0, operand, 0, 0), Check.ARGUMENT);
        add(always, "number(" + operand + ")", x -> x.number(operand, 1), Check.ARGUMENT);
        add(always, "fits" + name + ", 0)", x -> x.fits(0, operand, 0), Check.ARGUMENT);
        add(always, "decode" + name + ", 98099)", x -> x.decode(0, operand, 98099), Check.ARGUMENT);
    }

    private void addRefusalsOfSample() {
        add(ofSample, "operand that is there", x -> x.operand(0, 0, 3, false), Check.STATE);
        add(ofSample, "fixed without room", x -> x.fixed(0, 48, -1), Check.INDEX);
        add(ofSample, "fixed in a full word", x -> x.fixed(7, 1, 1), Check.INDEX);
        add(ofSample, "slice of no operand", x -> x.slice(0, 3, 0, 0), Check.ARGUMENT);
        add(ofSample, "slice with high below low", x -> x.slice(1, 2, 3, 4), Check.ARGUMENT);
        add(ofSample, "slice of a bit too high", x -> x.slice(1, 2, 7, 0), Check.INDEX);
        add(ofSample, "slice of a bit too low", x -> x.slice(1, 2, 4, -1), Check.INDEX);
        add(ofSample, "slice in a full word", x -> x.slice(2, 0, 0, 0), Check.INDEX);
        add(ofSample, "slice, the highest in the word", x -> x.slice(1, 2, 5, 0), Check.STATE);
        // Free bits come first here: those taken before one is refused would stay.
        add(ofSample, "slice, the lowest in the word", x -> x.slice(4, 0, 3, 0), Check.STATE);
        add(ofSample, "fits of no operand", x -> x.fits(3, 0, 0), Check.ARGUMENT);
        add(ofSample, "encode, not whole", x -> x.encode(1), Check.STATE);
        add(ofSample, "encode, does not fit", x -> x.encode(5), Check.ARITHMETIC);
        add(ofSample, "decode of no operand", x -> x.decode(0, 1, 98099), Check.ARGUMENT);
        add(ofSample, "decode, not whole", x -> x.decode(1, 2, 4), Check.STATE);
        add(ofSample, "decode of a word not of it", x -> x.decode(0, 0, 98099 ^ 8), Check.ARITHMETIC);
    }

    private static void add(List<Refusal> list, String what, Consumer<SliceCoder> call, String due) {
        list.add(new Refusal(what, call, due));
    }

    /** The mixed sample; form 4 has bit 0 of operand 0 of 4 bits; form 5 has operand 0 of 1 bit. */
    private static SliceCoder sample() {
        SliceCoder x = Samples.mixed();
        x.operand(4, 0, 4, true);
        x.slice(4, 0, 0, 0);
        x.operand(5, 0, 1, false);
        x.slice(5, 0, 0, 0);
        return x;
    }

    public static void main(String[] args) {
        Check check = new Check();
        RefusedTest test = new RefusedTest();
        List<Refusal> all = new ArrayList<>(test.always);
        all.addAll(test.ofSample);
        eachAlone(check, SliceCoder::new, test.always);
        eachAlone(check, RefusedTest::sample, all);
        oneAfterAnother(check, SliceCoder::new, test.always);
        oneAfterAnother(check, RefusedTest::sample, all);
        againAndAgain(check, all);
        check.end();
    }

    private static void eachAlone(Check check, Supplier<SliceCoder> made, List<Refusal> refusals) {
        for (Refusal refusal : refusals) {
            check.refused(made, refusal.what, refusal.call, refusal.due);
        }
    }

    private static void oneAfterAnother(Check check, Supplier<SliceCoder> made, List<Refusal> refusals) {
        SliceCoder x = made.get();
        for (Refusal refusal : refusals) {
            check.due(refusal.what + " after others", Check.answerOf(refusal.call, x), refusal.due);
        }
        for (int from = 0; from < refusals.size(); from += 40) {
            List<Refusal> some = refusals.subList(from, Math.min(from + 40, refusals.size()));
            check.leavesAll(made, "refusals from " + from + " on",
                    y -> some.forEach(refusal -> Check.answerOf(refusal.call, y)));
        }
    }

    /** A call that was refused is refused for the same reason as long as nothing else is called. */
    private static void againAndAgain(Check check, List<Refusal> refusals) {
        for (Refusal refusal : refusals) {
            SliceCoder x = sample();
            for (int i = 0; i < 70; i++) {
                check.due(refusal.what + " again", Check.answerOf(refusal.call, x), refusal.due);
            }
        }
    }
}
