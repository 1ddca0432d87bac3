import java.util.LinkedHashMap;
import java.util.Map;
import java.util.function.ObjIntConsumer;
import java.util.function.Supplier;

/** The sentences of 'Terms' that name an edge, each with every call that it is about. */
public final class TermsTest {
    private static final String TAKEN = "nothing thrown";

    public static void main(String[] args) {
        Check check = new Check();
        formsAre0To7(check);
        formsAreApart(check);
        operandsAre0To5(check);
        operandsHave1To64Bits(check);
        noBitsAreNoOperand(check);
        wordsHaveUpTo64Bits(check);
        toldFromTheHighestOn(check);
        wholeWithoutOperands(check);
        wholeIfEachBitIsThereOnce(check);
        numbersWithSign(check);
        noBitsBeyondTheLength(check);
        fixedBitsThere(check);
        meetIfSomeWordIsOfBoth(check);
        meetsItself(check);
        check.end();
    }

    /** 'FORMS 0..7'. */
    private static void formsAre0To7(Check check) {
        Map<String, ObjIntConsumer<SliceCoder>> calls = new LinkedHashMap<>();
        calls.put("clear", (x, form) -> x.clear(form));
        calls.put("operand", (x, form) -> x.operand(form, 1, 1, false));
        calls.put("fixed", (x, form) -> x.fixed(form, 1, 1));
        calls.put("slice", (x, form) -> x.slice(form, 0, 1, 0));
        calls.put("whole", (x, form) -> x.whole(form));
        calls.put("fits", (x, form) -> x.fits(form, 0, 1));
        calls.put("is", (x, form) -> x.is(form, 1));
        calls.put("meet, the first", (x, form) -> x.meet(form, 3));
        calls.put("meet, the second", (x, form) -> x.meet(3, form));
        calls.put("count", (x, form) -> x.count(form, 0));
        eachIsTaken(check, calls, () -> Samples.alike(false), 8);
        Map<String, ObjIntConsumer<SliceCoder>> callsOfWhole = new LinkedHashMap<>();
        callsOfWhole.put("encode", (x, form) -> x.encode(form));
        callsOfWhole.put("decode", (x, form) -> x.decode(form, 0, 1));
        eachIsTaken(check, callsOfWhole, () -> Samples.alike(true), 8);
    }

    /** 'One has OPERANDS 0..5'. */
    private static void operandsAre0To5(Check check) {
        Map<String, ObjIntConsumer<SliceCoder>> calls = new LinkedHashMap<>();
        calls.put("operand", (x, operand) -> x.operand(7, operand, 1, false));
        calls.put("slice", (x, operand) -> x.slice(0, operand, 0, 0));
        calls.put("number", (x, operand) -> x.number(operand, 1));
        calls.put("fits", (x, operand) -> x.fits(0, operand, 1));
        calls.put("decode", (x, operand) -> x.decode(1, operand, 0));
        eachIsTaken(check, calls, TermsTest::sixOperands, 6);
    }

    /** Form 0 has six operands that are not in the word, form 1 six that are. */
    private static SliceCoder sixOperands() {
        SliceCoder x = new SliceCoder();
        for (int k = 0; k < 6; k++) {
            x.operand(0, k, 1, false);
            x.operand(1, k, 1, false);
            x.slice(1, k, 0, 0);
        }
        return x;
    }

    private static void eachIsTaken(Check check, Map<String, ObjIntConsumer<SliceCoder>> calls,
            Supplier<SliceCoder> made, int end) {
        calls.forEach((name, call) -> {
            for (int i = 0; i < end; i++) {
                int inside = i;
                check.due(name + " of " + i, Check.answerOf(x -> call.accept(x, inside), made.get()), TAKEN);
            }
            for (int outside : new int[] {-1, end, Integer.MIN_VALUE, Integer.MAX_VALUE}) {
                check.refused(made, name + " of " + outside, x -> call.accept(x, outside), Check.ARGUMENT);
            }
        });
    }

    /** Each of the eight is told something else, and has it when all are told. */
    private static void formsAreApart(Check check) {
        SliceCoder x = new SliceCoder();
        for (int form = 0; form < 8; form++) {
            x.operand(form, form % 6, form + 1, form % 2 == 0);
            x.fixed(form, 4, 8 + form);
            x.slice(form, form % 6, form, 0);
        }
        for (int form = 0; form < 8; form++) {
            int f = form;
            check.due("bits of form " + f, x.count(f, 0), 5 + f);
            check.due("word of form " + f, () -> x.encode(f), (8L + f) << (f + 1));
            check.due("-1 in form " + f, x.fits(f, f % 6, -1), f % 2 == 0);
        }
    }

    /** 'each of some bits (1 to 64 ..)'. */
    private static void operandsHave1To64Bits(Check check) {
        for (boolean sign : new boolean[] {false, true}) {
            for (int n = 1; n <= 64; n++) {
                int bits = n;
                SliceCoder x = new SliceCoder();
                check.due("an operand of " + n + " bits",
                        Check.answerOf(y -> y.operand(0, 0, bits, sign), x), TAKEN);
                check.due("its bits that are not in the word", x.count(0, 3), n);
            }
            for (int n : Check.WRONG_BIT_COUNTS) {
                check.refused(SliceCoder::new, "an operand of " + n + " bits",
                        x -> x.operand(0, 0, n, sign), Check.ARGUMENT);
            }
        }
    }

    /** '0: it is none'. */
    private static void noBitsAreNoOperand(Check check) {
        Supplier<SliceCoder> tried = () -> {
            SliceCoder x = new SliceCoder();
            Check.answerOf(y -> y.operand(0, 0, 0, false), x);
            return x;
        };
        check.due("operands", tried.get().count(0, 2), 0);
        check.refused(tried, "a slice of none", x -> x.slice(0, 0, 0, 0), Check.ARGUMENT);
        check.refused(tried, "a number for none", x -> x.fits(0, 0, 0), Check.ARGUMENT);
        check.refused(tried, "the number of none", x -> x.decode(0, 0, 0), Check.ARGUMENT);
        SliceCoder x = tried.get();
        check.due("one of 1 bit then", Check.answerOf(y -> y.operand(0, 0, 1, false), x), TAKEN);
    }

    /** 'up to 64 bits of a WORD'. */
    private static void wordsHaveUpTo64Bits(Check check) {
        for (int form : new int[] {0, 7}) {
            SliceCoder x = new SliceCoder();
            x.operand(form, 0, 64, false);
            for (int i = 0; i < 32; i++) {
                int bit = i;
                check.due("bit " + 2 * i, () -> x.fixed(form, 1, 1), 2 * i + 1);
                check.due("bit " + (2 * i + 1), () -> x.slice(form, 0, bit, bit), 2 * i + 2);
            }
            check.due("a fixed bit beyond 64", () -> x.fixed(form, 1, 1), Check.INDEX);
            check.due("a bit of an operand beyond 64", () -> x.slice(form, 0, 32, 32), Check.INDEX);
            check.due("bits then", x.count(form, 0), 64);
            check.due("fixed ones then", x.count(form, 1), 32);
            check.due("missing ones then", x.count(form, 3), 32);
        }
    }

    /** 'They are told from the highest one on, piece by piece'. */
    private static void toldFromTheHighestOn(Check check) {
        SliceCoder x = new SliceCoder();
        x.operand(0, 0, 2, false);
        x.fixed(0, 1, 1);
        x.slice(0, 0, 0, 0);
        x.fixed(0, 2, 1);
        x.slice(0, 0, 1, 1);
        check.due("1 a 01 b of 0", () -> x.encode(0), 0b10010);
        x.number(0, 1);
        check.due("1 a 01 b of 1", () -> x.encode(0), 0b11010);
        x.number(0, 2);
        check.due("1 a 01 b of 2", () -> x.encode(0), 0b10011);
        x.fixed(0, 1, 0);
        check.due("a bit more: all others are one higher", () -> x.encode(0), 0b100110);
    }

    /** '(without OPERANDS it is)'. */
    private static void wholeWithoutOperands(Check check) {
        SliceCoder x = new SliceCoder();
        check.due("an empty form is whole", x.whole(0), true);
        x.fixed(0, 63, 5);
        check.due("one of 63 fixed bits is whole", x.whole(0), true);
        x.fixed(0, 1, 1);
        check.due("a full one is whole", x.whole(0), true);
        check.due("and has its word", () -> x.encode(0), 11);
        x.operand(0, 0, 1, false);
        check.due("with an operand it is not", x.whole(0), false);
        x.clear(0);
        check.due("cleared it is again", x.whole(0), true);
    }

    /** 'WHOLE if each bit of each of its OPERANDS is in it, once'. */
    private static void wholeIfEachBitIsThereOnce(Check check) {
        for (int missing = 0; missing < 12; missing++) {
            SliceCoder x = new SliceCoder();
            for (int k = 0; k < 6; k++) {
                x.operand(0, k, 2, false);
            }
            for (int bit = 0; bit < 12; bit++) {
                if (bit != missing) {
                    x.slice(0, bit / 2, bit % 2, bit % 2);
                }
            }
            int last = missing;
            check.due("all but bit " + missing + " of 12", x.whole(0), false);
            int other = (missing + 1) % 12;
            check.due("another one twice", () -> x.slice(0, other / 2, other % 2, other % 2), Check.STATE);
            check.due("still all but one", x.whole(0), false);
            check.due("the last one", () -> x.slice(0, last / 2, last % 2, last % 2), 12);
            check.due("all 12", x.whole(0), true);
        }
    }

    /** 'numbers with sign have the bits of their two's complement'. */
    private static void numbersWithSign(Check check) {
        for (int n = 1; n <= 64; n++) {
            SliceCoder x = Samples.single(0, 0, n, true);
            long mask = -1L >>> (64 - n);
            long least = -1L << (n - 1);
            for (long v : new long[] {least, least / 2, -1, 0, -(least + 1)}) {
                x.number(0, v);
                check.due(v + " in " + n + " bits", () -> x.encode(0), v & mask);
                check.due(v + " out of " + n + " bits", () -> x.decode(0, 0, v & mask), v);
            }
        }
    }

    /** 'A WORD is OF a FORM if it has no bits beyond its length'. */
    private static void noBitsBeyondTheLength(Check check) {
        for (int length = 0; length <= 64; length++) {
            SliceCoder x = length == 0 ? new SliceCoder() : Samples.single(0, 0, length, false);
            for (int bit = 0; bit < 64; bit++) {
                check.due("bit " + bit + " of " + length, x.is(0, 1L << bit), bit < length);
            }
        }
    }

    /** '.. and its fixed bits there'. */
    private static void fixedBitsThere(Check check) {
        long word = 0x9E3779B97F4A7C15L;
        for (int length = 1; length <= 64; length++) {
            SliceCoder x = new SliceCoder();
            x.fixed(0, length, word);
            long own = word & -1L >>> (64 - length);
            check.due("its own word of " + length + " bits", x.is(0, own), true);
            for (int bit = 0; bit < length; bit++) {
                check.due("bit " + bit + " of " + length + " changed", x.is(0, own ^ 1L << bit), false);
            }
        }
    }

    /** 'Two FORMS MEET if some WORD is of both': one bit that differs is enough, wherever it is. */
    private static void meetIfSomeWordIsOfBoth(Check check) {
        for (int place = 0; place < 64; place++) {
            SliceCoder x = new SliceCoder();
            x.fixed(0, 64, 0);
            x.fixed(1, 64, 1L << place);
            x.fixed(2, place + 1, 1L << place);
            Samples.tell(x, 3, "0".repeat(63 - place) + "x" + "0".repeat(place));
            String at = " in place " + place;
            check.due("0 and 1" + at, x.meet(0, 1), false);
            check.due("1 and 0" + at, x.meet(1, 0), false);
            check.due("0 and a 1 of a shorter form" + at, x.meet(0, 2), false);
            check.due("1 and a 1 of a shorter form" + at, x.meet(1, 2), true);
            check.due("0 and a free bit" + at, x.meet(0, 3), true);
            check.due("1 and a free bit" + at, x.meet(3, 1), true);
            check.due("1 and no bits" + at, x.meet(1, 4), false);
            check.due("1 of a shorter form and no bits" + at, x.meet(4, 2), false);
            check.due("a free bit and no bits" + at, x.meet(4, 3), true);
        }
    }

    /** '(one always meets itself)'. */
    private static void meetsItself(Check check) {
        for (String pattern : new String[] {"", "0", "1", "x", "x1", "1".repeat(64), "0".repeat(64)}) {
            for (int form = 0; form < 8; form++) {
                SliceCoder x = new SliceCoder();
                Samples.tell(x, form, pattern);
                check.due("'" + pattern + "' meets itself", x.meet(form, form), true);
                x.operand(form, 5, 64, true);
                check.due("'" + pattern + "', not whole, meets itself", x.meet(form, form), true);
            }
        }
    }
}
