/** Promise 3. */
public final class OperandTest {
    public static void main(String[] args) {
        Check check = new Check();
        firstAndLastOnes(check);
        operandsAreOfOneForm(check);
        signIsOfOneOperand(check);
        noneIsInTheWordSoFar(check);
        fullWordTakesOperands(check);
        wrongArguments(check);
        operandThatIsThere(check);
        eachOneIsThereOnce(check);
        check.end();
    }

    /** 'An OPERAND of n bits': the first and the last form, operand and n. */
    private static void firstAndLastOnes(Check check) {
        for (int form : new int[] {0, 3, 7}) {
            for (int operand : new int[] {0, 2, 5}) {
                for (int n : new int[] {1, 2, 63, 64}) {
                    SliceCoder x = new SliceCoder();
                    String name = "operand(" + form + ", " + operand + ", " + n + "): ";
                    x.operand(form, operand, n, false);
                    check.due(name + "operands", x.count(form, 2), 1);
                    check.due(name + "bits not in the word", x.count(form, 3), n);
                    check.due(name + "bits of the word", x.count(form, 0), 0);
                    check.due(name + "whole", x.whole(form), false);
                    check.due(name + "highest bit", () -> x.slice(form, operand, n - 1, n - 1), 1);
                    check.due(name + "too high", () -> x.slice(form, operand, n, n), Check.INDEX);
                }
            }
        }
    }

    private static void operandsAreOfOneForm(Check check) {
        SliceCoder x = new SliceCoder();
        for (int operand = 0; operand < 6; operand++) {
            x.operand(4, operand, 64, true);
            check.due("operands of form 4", x.count(4, 2), operand + 1);
        }
        check.due("bits of six operands", x.count(4, 3), 384);
        check.due("operands of form 3", x.count(3, 2), 0);
        check.due("operands of form 5", x.count(5, 2), 0);
        x.operand(5, 0, 3, false);
        check.due("bits of form 5", x.count(5, 3), 3);
        check.due("bits of form 4", x.count(4, 3), 384);
    }

    private static void signIsOfOneOperand(Check check) {
        SliceCoder x = new SliceCoder();
        x.operand(0, 0, 4, true);
        x.operand(0, 1, 4, false);
        x.operand(1, 0, 4, false);
        check.due("-1 with sign", x.fits(0, 0, -1), true);
        check.due("-1 without, another operand", x.fits(0, 1, -1), false);
        check.due("-1 without, another form", x.fits(1, 0, -1), false);
    }

    /** '(none of them is in the WORD so far)': each can be told, whatever stands in the word. */
    private static void noneIsInTheWordSoFar(Check check) {
        for (int n : new int[] {1, 2, 31, 32, 33, 61, 62}) {
            SliceCoder x = new SliceCoder();
            x.operand(0, 0, 1, false);
            x.slice(0, 0, 0, 0);
            x.fixed(0, 1, 1);
            x.operand(0, 1, n, true);
            check.due("bits of the word with an operand of " + n, x.count(0, 0), 2);
            check.due("its bits that are not in it", x.count(0, 3), n);
            check.due("whole", x.whole(0), false);
            for (int i = 0; i < n; i++) {
                int bit = i;
                check.due("bit " + i + " of " + n, () -> x.slice(0, 1, bit, bit), 3 + i);
            }
            check.due("whole when all are told", x.whole(0), true);
        }
    }

    /** A word of 64 bits has room for none of its bits, but an operand is no bit of a word. */
    private static void fullWordTakesOperands(Check check) {
        SliceCoder x = new SliceCoder();
        x.fixed(7, 64, 5);
        for (int k = 0; k < 6; k++) {
            x.operand(7, k, 64, true);
            check.due("operands of a full word", x.count(7, 2), k + 1);
            check.due("bits of these", x.count(7, 3), 64 * (k + 1));
        }
        check.due("its bits", x.count(7, 0), 64);
        check.due("it is not whole", x.whole(7), false);
    }

    /** 'IllegalArgumentException: form, operand, n is not 1..64'. */
    private static void wrongArguments(Check check) {
        for (int form : Check.WRONG_FORMS) {
            check.refused(Samples::mixed, "operand(" + form + ", 0, 8)",
                    x -> x.operand(form, 0, 8, true), Check.ARGUMENT);
        }
        for (int operand : Check.WRONG_OPERANDS) {
            check.refused(Samples::mixed, "operand(1, " + operand + ", 8)",
                    x -> x.operand(1, operand, 8, true), Check.ARGUMENT);
        }
        for (int n : Check.WRONG_BIT_COUNTS) {
            check.refused(Samples::mixed, "operand(1, 0, " + n + ")",
                    x -> x.operand(1, 0, n, true), Check.ARGUMENT);
            check.refused(Samples::mixed, "operand(0, 0, " + n + "), n before what is there",
                    x -> x.operand(0, 0, n, true), Check.ARGUMENT);
        }
    }

    /** 'IllegalStateException: it is there', whole, in part or not in the word. */
    private static void operandThatIsThere(Check check) {
        check.refused(Samples::mixed, "operand(0, 0, 8, false) again",
                x -> x.operand(0, 0, 8, false), Check.STATE);
        check.refused(Samples::mixed, "operand(0, 5, 64, true) again",
                x -> x.operand(0, 5, 64, true), Check.STATE);
        check.refused(Samples::mixed, "operand(1, 2, 1, false), in part in the word",
                x -> x.operand(1, 2, 1, false), Check.STATE);
        check.refused(Samples::mixed, "operand(2, 0, 2, true), not in the word",
                x -> x.operand(2, 0, 2, true), Check.STATE);
    }

    /** Each of 0..5 in the first and the last form: of 1 bit or 64, it is not told twice. */
    private static void eachOneIsThereOnce(Check check) {
        for (int form : new int[] {0, 7}) {
            for (int k = 0; k < 6; k++) {
                for (int n : new int[] {1, 64}) {
                    int operand = k;
                    check.refused(() -> Samples.single(form, operand, n, true),
                            "operand(" + form + ", " + k + ") of " + n + " bits again",
                            x -> x.operand(form, operand, n, true), Check.STATE);
                    check.refused(() -> Samples.single(form, operand, n, false),
                            "operand(" + form + ", " + k + ") of " + n + " bits anew",
                            x -> x.operand(form, operand, 65 - n, true), Check.STATE);
                }
            }
        }
    }
}
