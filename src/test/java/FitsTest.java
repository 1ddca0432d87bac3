import java.math.BigInteger;

/** Promise 8. */
public final class FitsTest {
    public static void main(String[] args) {
        Check check = new Check();
        for (int n = 1; n <= 64; n++) {
            edges(check, n, false);
            edges(check, n, true);
        }
        oneBit(check);
        sixtyThreeBits(check);
        sixtyFourBits(check);
        formAndOperand(check);
        inTheWordOrNot(check);
        wrongArguments(check);
        check.end();
    }

    /** 'from 0 on (with sign: from -2 ** (n - 1) on), below 2 ** n (2 ** (n - 1))'. */
    private static void edges(Check check, int n, boolean sign) {
        SliceCoder x = new SliceCoder();
        x.operand(0, 0, n, sign);
        BigInteger low = sign ? BigInteger.TWO.pow(n - 1).negate() : BigInteger.ZERO;
        BigInteger end = BigInteger.TWO.pow(sign ? n - 1 : n);
        long[] tried = {low.longValue() - 1, low.longValue(), low.longValue() + 1, -1, 0, 1,
            end.longValue() - 1, end.longValue(), end.longValue() + 1, Long.MIN_VALUE, Long.MAX_VALUE,
            0x100000000L, -0x100000000L, 0x80000000L, -0x80000000L};
        for (long v : tried) {
            BigInteger exact = BigInteger.valueOf(v);
            boolean due = n == 64 || exact.compareTo(low) >= 0 && exact.compareTo(end) < 0;
            check.due("fits " + v + " in " + n + " bits, sign " + sign, x.fits(0, 0, v), due);
        }
    }

    private static void oneBit(Check check) {
        SliceCoder x = new SliceCoder();
        x.operand(0, 0, 1, false);
        x.operand(0, 1, 1, true);
        for (int v = -3; v <= 3; v++) {
            check.due(v + " in one bit", x.fits(0, 0, v), v == 0 || v == 1);
            check.due(v + " in one bit with sign", x.fits(0, 1, v), v == 0 || v == -1);
        }
    }

    /** The widest that has numbers that do not fit. */
    private static void sixtyThreeBits(Check check) {
        SliceCoder x = new SliceCoder();
        x.operand(0, 0, 63, false);
        x.operand(0, 1, 63, true);
        long half = 1L << 62;
        check.due("the most in 63 bits", x.fits(0, 0, Long.MAX_VALUE), true);
        check.due("-1 in 63 bits", x.fits(0, 0, -1), false);
        check.due("the least long in 63 bits", x.fits(0, 0, Long.MIN_VALUE), false);
        check.due("2 ** 62 - 1 in 63 bits with sign", x.fits(0, 1, half - 1), true);
        check.due("2 ** 62 in 63 bits with sign", x.fits(0, 1, half), false);
        check.due("-2 ** 62 in 63 bits with sign", x.fits(0, 1, -half), true);
        check.due("-2 ** 62 - 1 in 63 bits with sign", x.fits(0, 1, -half - 1), false);
    }

    /** 'of 64 bits each one can'. */
    private static void sixtyFourBits(Check check) {
        for (boolean sign : new boolean[] {false, true}) {
            for (int form : new int[] {0, 7}) {
                for (int k : new int[] {0, 5}) {
                    SliceCoder x = new SliceCoder();
                    x.operand(form, k, 64, sign);
                    for (long v : new long[] {Long.MIN_VALUE, Long.MIN_VALUE + 1, -2, -1, 0, 1,
                        Long.MAX_VALUE - 1, Long.MAX_VALUE}) {
                        check.due(v + " in 64 bits, sign " + sign, x.fits(form, k, v), true);
                    }
                }
            }
        }
    }

    /** What is in the word makes no difference, nor whether there is room for it. */
    private static void inTheWordOrNot(Check check) {
        SliceCoder x = new SliceCoder();
        x.operand(0, 0, 4, true);
        fourBitsWithSign(check, x, "not in the word");
        x.slice(0, 0, 3, 2);
        fourBitsWithSign(check, x, "in part in the word");
        x.fixed(0, 62, 0);
        fourBitsWithSign(check, x, "in part in a full word");
        fourBitsWithSign(check, Samples.single(0, 0, 4, true), "whole");
    }

    private static void fourBitsWithSign(Check check, SliceCoder x, String when) {
        check.due("7, " + when, x.fits(0, 0, 7), true);
        check.due("8, " + when, x.fits(0, 0, 8), false);
        check.due("-8, " + when, x.fits(0, 0, -8), true);
        check.due("-9, " + when, x.fits(0, 0, -9), false);
    }

    private static void formAndOperand(Check check) {
        SliceCoder x = new SliceCoder();
        x.operand(0, 0, 3, false);
        x.operand(0, 5, 4, false);
        x.operand(7, 0, 5, false);
        check.due("7 in 3 bits", x.fits(0, 0, 7), true);
        check.due("8 in 3 bits", x.fits(0, 0, 8), false);
        check.due("15 in 4 bits", x.fits(0, 5, 15), true);
        check.due("16 in 4 bits", x.fits(0, 5, 16), false);
        check.due("31 in 5 bits", x.fits(7, 0, 31), true);
        check.due("32 in 5 bits", x.fits(7, 0, 32), false);
        x.number(0, 32);
        check.due("7 whatever number 0 is", x.fits(0, 0, 7), true);
    }

    /** 'IllegalArgumentException: form, it is none'. */
    private static void wrongArguments(Check check) {
        for (int form : Check.WRONG_FORMS) {
            check.refused(Samples::mixed, "fits(" + form + ", 0, 0)",
                    x -> x.fits(form, 0, 0), Check.ARGUMENT);
        }
        for (int operand : Check.WRONG_OPERANDS) {
            check.refused(Samples::mixed, "fits(0, " + operand + ", 0)",
                    x -> x.fits(0, operand, 0), Check.ARGUMENT);
        }
        check.refused(Samples::mixed, "fits(0, 1, 0), no such operand",
                x -> x.fits(0, 1, 0), Check.ARGUMENT);
        check.refused(Samples::mixed, "fits(3, 0, 0), a form without operands",
                x -> x.fits(3, 0, 0), Check.ARGUMENT);
    }
}
