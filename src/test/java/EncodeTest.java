import java.util.function.Supplier;

/** Promise 9. */
public final class EncodeTest {
    public static void main(String[] args) {
        Check check = new Check();
        shortWords(check);
        longWords(check);
        numbersOfOtherOperandsDoNotCount(check);
        wrongArguments(check);
        notWhole(check);
        numbersThatDoNotFit(check);
        check.end();
    }

    private static void shortWords(Check check) {
        SliceCoder x = Samples.mixed();
        check.due("101 11111 1001 10 011", () -> x.encode(0), 0b10111111100110011);
        x.number(0, 127);
        x.number(5, 0);
        check.due("101 01111 0000 10 111", () -> x.encode(0), 0b10101111000010111);
        x.number(0, -128);
        x.number(5, 15);
        check.due("101 10000 1111 10 000", () -> x.encode(0), 0b10110000111110000);
        check.due("no bits", () -> x.encode(3), 0);
        for (int form : new int[] {0, 7}) {
            SliceCoder bit = Samples.single(form, 5, 1, true);
            check.due("one bit, 0", () -> bit.encode(form), 0);
            bit.number(5, -1);
            check.due("one bit, -1", () -> bit.encode(form), 1);
        }
    }

    private static void longWords(Check check) {
        SliceCoder x = new SliceCoder();
        x.operand(0, 0, 31, true);
        x.operand(0, 1, 31, false);
        x.fixed(0, 1, 1);
        x.slice(0, 0, 30, 0);
        x.slice(0, 1, 30, 0);
        x.fixed(0, 1, 1);
        x.number(0, -1);
        check.due("64 bits, -1 and 0", () -> x.encode(0), 0xFFFFFFFF00000001L);
        x.number(0, 0);
        x.number(1, 0x7FFFFFFF);
        check.due("64 bits, 0 and the most", () -> x.encode(0), 0x80000000FFFFFFFFL);
        for (boolean sign : new boolean[] {false, true}) {
            SliceCoder one = Samples.single(0, 0, 64, sign);
            for (long v : new long[] {-1, Long.MIN_VALUE, Long.MAX_VALUE, 0x0123456789ABCDEFL}) {
                one.number(0, v);
                check.due("an operand of 64 bits, " + v, () -> one.encode(0), v);
            }
        }
    }

    private static void numbersOfOtherOperandsDoNotCount(Check check) {
        SliceCoder x = Samples.mixed();
        x.number(1, Long.MAX_VALUE);
        x.number(2, Long.MIN_VALUE);
        check.due("numbers of operands that are not there", () -> x.encode(0), 98099);
    }

    private static void wrongArguments(Check check) {
        for (int form : Check.WRONG_FORMS) {
            check.refused(Samples::mixed, "encode(" + form + ")", x -> x.encode(form), Check.ARGUMENT);
        }
    }

    private static void notWhole(Check check) {
        check.refused(Samples::mixed, "encode(1)", x -> x.encode(1), Check.STATE);
        check.refused(Samples::mixed, "encode(2)", x -> x.encode(2), Check.STATE);
        Supplier<SliceCoder> alsoTooGreat = () -> {
            SliceCoder x = Samples.mixed();
            x.number(2, 1000);
            return x;
        };
        check.refused(alsoTooGreat, "encode(1), not whole before not fitting",
                x -> x.encode(1), Check.STATE);
    }

    private static void numbersThatDoNotFit(Check check) {
        tooFar(check, 0, -129);
        tooFar(check, 0, 128);
        tooFar(check, 0, Long.MAX_VALUE);
        tooFar(check, 5, -1);
        tooFar(check, 5, 16);
        tooFar(check, 5, Long.MIN_VALUE);
        SliceCoder bit = Samples.single(0, 0, 1, false);
        bit.number(0, 2);
        check.due("2 in one bit", () -> bit.encode(0), Check.ARITHMETIC);
        SliceCoder signBit = Samples.single(0, 5, 1, true);
        signBit.number(5, 1);
        check.due("1 in one bit with sign", () -> signBit.encode(0), Check.ARITHMETIC);
    }

    private static void tooFar(Check check, int k, long v) {
        Supplier<SliceCoder> made = () -> {
            SliceCoder x = Samples.mixed();
            x.number(k, v);
            return x;
        };
        check.refused(made, "encode(0), number " + k + " being " + v, x -> x.encode(0), Check.ARITHMETIC);
    }
}
