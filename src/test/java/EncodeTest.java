import java.util.function.Supplier;

/** Promise 9. */
public final class EncodeTest {
    public static void main(String[] args) {
        Check check = new Check();
        shortWords(check);
        longWords(check);
        numbersOfOtherOperandsDoNotCount(check);
        wrongArguments(check);
        notWhole(check);
        numbersThatDoNotFit(check);
        noBits(check);
        fixedBitsAlone(check);
        everyWidthToItsEdges(check);
        eachOperandIsLookedAt(check);
        check.end();
    }

    private static void shortWords(Check check) {
        SliceCoder x = Samples.mixed();
        check.due("101 11111 1001 10 011", () -> x.encode(0), 0b10111111100110011);
        x.number(0, 127);
        x.number(5, 0);
        check.due("101 01111 0000 10 111", () -> x.encode(0), 0b10101111000010111);
        x.number(0, -128);
        x.number(5, 15);
        check.due("101 10000 1111 10 000", () -> x.encode(0), 0b10110000111110000);
        check.due("no bits", () -> x.encode(3), 0);
        for (int form : new int[] {0, 7}) {
            SliceCoder bit = Samples.single(form, 5, 1, true);
            check.due("one bit, 0", () -> bit.encode(form), 0);
            bit.number(5, -1);
            check.due("one bit, -1", () -> bit.encode(form), 1);
        }
    }

    private static void longWords(Check check) {
        SliceCoder x = new SliceCoder();
        x.operand(0, 0, 31, true);
        x.operand(0, 1, 31, false);
        x.fixed(0, 1, 1);
        x.slice(0, 0, 30, 0);
        x.slice(0, 1, 30, 0);
        x.fixed(0, 1, 1);
        x.number(0, -1);
        check.due("64 bits, -1 and 0", () -> x.encode(0), 0xFFFFFFFF00000001L);
        x.number(0, 0);
        x.number(1, 0x7FFFFFFF);
        check.due("64 bits, 0 and the most", () -> x.encode(0), 0x80000000FFFFFFFFL);
        for (boolean sign : new boolean[] {false, true}) {
            SliceCoder one = Samples.single(0, 0, 64, sign);
            for (long v : new long[] {-1, Long.MIN_VALUE, Long.MAX_VALUE, 0x0123456789ABCDEFL}) {
                one.number(0, v);
                check.due("an operand of 64 bits, " + v, () -> one.encode(0), v);
            }
        }
    }

    private static void numbersOfOtherOperandsDoNotCount(Check check) {
        SliceCoder x = Samples.mixed();
        x.number(1, Long.MAX_VALUE);
        x.number(2, Long.MIN_VALUE);
        check.due("numbers of operands that are not there", () -> x.encode(0), 98099);
    }

    /** 'IllegalArgumentException: form'. */
    private static void wrongArguments(Check check) {
        for (int form : Check.WRONG_FORMS) {
            check.refused(Samples::mixed, "encode(" + form + ")", x -> x.encode(form), Check.ARGUMENT);
        }
    }

    /** 'IllegalStateException: it is not WHOLE'. */
    private static void notWhole(Check check) {
        check.refused(Samples::mixed, "encode(1)", x -> x.encode(1), Check.STATE);
        check.refused(Samples::mixed, "encode(2)", x -> x.encode(2), Check.STATE);
        Supplier<SliceCoder> alsoTooGreat = () -> {
            SliceCoder x = Samples.mixed();
            x.number(2, 1000);
            return x;
        };
        check.refused(alsoTooGreat, "encode(1), not whole before not fitting",
                x -> x.encode(1), Check.STATE);
    }

    /** 'ArithmeticException: a number does not fit'. */
    private static void numbersThatDoNotFit(Check check) {
        tooFar(check, 0, -129);
        tooFar(check, 0, 128);
        tooFar(check, 0, Long.MAX_VALUE);
        tooFar(check, 5, -1);
        tooFar(check, 5, 16);
        tooFar(check, 5, Long.MIN_VALUE);
        SliceCoder bit = Samples.single(0, 0, 1, false);
        bit.number(0, 2);
        check.due("2 in one bit", () -> bit.encode(0), Check.ARITHMETIC);
        SliceCoder signBit = Samples.single(0, 5, 1, true);
        signBit.number(5, 1);
        check.due("1 in one bit with sign", () -> signBit.encode(0), Check.ARITHMETIC);
    }

    private static void tooFar(Check check, int k, long v) {
        Supplier<SliceCoder> made = () -> {
            SliceCoder x = Samples.mixed();
            x.number(k, v);
            return x;
        };
        check.refused(made, "encode(0), number " + k + " being " + v, x -> x.encode(0), Check.ARITHMETIC);
    }

    /** '(of no bits: 0)', whatever the numbers are. */
    private static void noBits(Check check) {
        SliceCoder x = new SliceCoder();
        for (int form = 0; form < 8; form++) {
            int f = form;
            check.due("no bits in form " + f, () -> x.encode(f), 0);
        }
        for (int k = 0; k < 6; k++) {
            x.number(k, Long.MIN_VALUE + k);
        }
        check.due("no bits, numbers that fit nowhere", () -> x.encode(7), 0);
        check.refused(() -> {
            SliceCoder y = new SliceCoder();
            y.operand(7, 5, 1, false);
            return y;
        }, "no bits, but an operand", y -> y.encode(7), Check.STATE);
    }

    private static void fixedBitsAlone(Check check) {
        for (int n : new int[] {1, 63, 64}) {
            SliceCoder x = new SliceCoder();
            x.fixed(0, n, -1);
            x.number(0, Long.MAX_VALUE);
            check.due(n + " fixed ones", () -> x.encode(0), -1L >>> (64 - n));
            x.clear(0);
            x.fixed(0, n, 0);
            check.due(n + " fixed zeros", () -> x.encode(0), 0);
        }
    }

    /** The last number that fits and the first that does not, at both ends. */
    private static void everyWidthToItsEdges(Check check) {
        for (int n = 1; n <= 63; n++) {
            long all = -1L >>> (64 - n);
            long top = 1L << (n - 1);
            String bits = " in " + n + " bits";
            SliceCoder plain = Samples.single(0, 0, n, false);
            numberGives(check, plain, "0" + bits, 0, 0L);
            numberGives(check, plain, "the greatest" + bits, all, all);
            numberGives(check, plain, "one more" + bits, all + 1, Check.ARITHMETIC);
            numberGives(check, plain, "-1" + bits, -1, Check.ARITHMETIC);
            SliceCoder signed = Samples.single(0, 0, n, true);
            numberGives(check, signed, "the least, with sign," + bits, -top, top);
            numberGives(check, signed, "one less, with sign," + bits, -top - 1, Check.ARITHMETIC);
            numberGives(check, signed, "the greatest, with sign," + bits, top - 1, top - 1);
            numberGives(check, signed, "one more, with sign," + bits, top, Check.ARITHMETIC);
        }
    }

    private static void numberGives(Check check, SliceCoder x, String what, long v, Object due) {
        x.number(0, v);
        check.due(what, () -> x.encode(0), due);
    }

    /** One of six numbers does not fit, each in its turn, and the others do. */
    private static void eachOperandIsLookedAt(Check check) {
        for (int k = 0; k < 6; k++) {
            int wrong = k;
            Supplier<SliceCoder> made = () -> {
                SliceCoder x = new SliceCoder();
                for (int operand = 0; operand < 6; operand++) {
                    x.operand(7, operand, 2, false);
                    x.slice(7, operand, 1, 0);
                    x.number(operand, operand == wrong ? 4 : 3);
                }
                return x;
            };
            check.refused(made, "number " + k + " alone does not fit", x -> x.encode(7), Check.ARITHMETIC);
            SliceCoder x = made.get();
            x.number(wrong, 3);
            check.due("all six fit", () -> x.encode(7), 4095);
        }
    }
}
