import java.math.BigInteger;

/** Promise 8. */
public final class FitsTest {
    public static void main(String[] args) {
        Check check = new Check();
        for (int n = 1; n <= 64; n++) {
            edges(check, n, false);
            edges(check, n, true);
        }
        formAndOperand(check);
        wrongArguments(check);
        check.end();
    }

    private static void edges(Check check, int n, boolean sign) {
        SliceCoder x = new SliceCoder();
        x.operand(0, 0, n, sign);
        BigInteger low = sign ? BigInteger.TWO.pow(n - 1).negate() : BigInteger.ZERO;
        BigInteger end = BigInteger.TWO.pow(sign ? n - 1 : n);
        long[] tried = {low.longValue() - 1, low.longValue(), low.longValue() + 1, -1, 0, 1,
            end.longValue() - 1, end.longValue(), end.longValue() + 1, Long.MIN_VALUE, Long.MAX_VALUE,
            0x100000000L, -0x100000000L, 0x80000000L, -0x80000000L};
        for (long v : tried) {
            BigInteger exact = BigInteger.valueOf(v);
            boolean due = n == 64 || exact.compareTo(low) >= 0 && exact.compareTo(end) < 0;
            check.due("fits " + v + " in " + n + " bits, sign " + sign, x.fits(0, 0, v), due);
        }
    }

    private static void formAndOperand(Check check) {
        SliceCoder x = new SliceCoder();
        x.operand(0, 0, 3, false);
        x.operand(0, 5, 4, false);
        x.operand(7, 0, 5, false);
        check.due("7 in 3 bits", x.fits(0, 0, 7), true);
        check.due("8 in 3 bits", x.fits(0, 0, 8), false);
        check.due("15 in 4 bits", x.fits(0, 5, 15), true);
        check.due("16 in 4 bits", x.fits(0, 5, 16), false);
        check.due("31 in 5 bits", x.fits(7, 0, 31), true);
        check.due("32 in 5 bits", x.fits(7, 0, 32), false);
        x.number(0, 32);
        check.due("7 whatever number 0 is", x.fits(0, 0, 7), true);
    }

    private static void wrongArguments(Check check) {
        for (int form : Check.WRONG_FORMS) {
            check.refused(Samples::mixed, "fits(" + form + ", 0, 0)",
                    x -> x.fits(form, 0, 0), Check.ARGUMENT);
        }
        for (int operand : Check.WRONG_OPERANDS) {
            check.refused(Samples::mixed, "fits(0, " + operand + ", 0)",
                    x -> x.fits(0, operand, 0), Check.ARGUMENT);
        }
        check.refused(Samples::mixed, "fits(0, 1, 0), no such operand",
                x -> x.fits(0, 1, 0), Check.ARGUMENT);
        check.refused(Samples::mixed, "fits(3, 0, 0), a form without operands",
                x -> x.fits(3, 0, 0), Check.ARGUMENT);
    }
}
