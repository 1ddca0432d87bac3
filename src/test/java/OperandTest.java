/** Promise 3. */
public final class OperandTest {
    public static void main(String[] args) {
        Check check = new Check();
        firstAndLastOnes(check);
        operandsAreOfOneForm(check);
        signIsOfOneOperand(check);
        wrongArguments(check);
        operandThatIsThere(check);
        check.end();
    }

    private static void firstAndLastOnes(Check check) {
        for (int form : new int[] {0, 3, 7}) {
            for (int operand : new int[] {0, 2, 5}) {
                for (int n : new int[] {1, 2, 63, 64}) {
                    SliceCoder x = new SliceCoder();
                    String name = "operand(" + form + ", " + operand + ", " + n + "): ";
                    x.operand(form, operand, n, false);
                    check.due(name + "operands", x.count(form, 2), 1);
                    check.due(name + "bits not in the word", x.count(form, 3), n);
                    check.due(name + "bits of the word", x.count(form, 0), 0);
                    check.due(name + "whole", x.whole(form), false);
                    check.due(name + "highest bit", () -> x.slice(form, operand, n - 1, n - 1), 1);
                    check.due(name + "too high", () -> x.slice(form, operand, n, n), Check.INDEX);
                }
            }
        }
    }

    private static void operandsAreOfOneForm(Check check) {
        SliceCoder x = new SliceCoder();
        for (int operand = 0; operand < 6; operand++) {
            x.operand(4, operand, 64, true);
            check.due("operands of form 4", x.count(4, 2), operand + 1);
        }
        check.due("bits of six operands", x.count(4, 3), 384);
        check.due("operands of form 3", x.count(3, 2), 0);
        check.due("operands of form 5", x.count(5, 2), 0);
        x.operand(5, 0, 3, false);
        check.due("bits of form 5", x.count(5, 3), 3);
        check.due("bits of form 4", x.count(4, 3), 384);
    }

    private static void signIsOfOneOperand(Check check) {
        SliceCoder x = new SliceCoder();
        x.operand(0, 0, 4, true);
        x.operand(0, 1, 4, false);
        x.operand(1, 0, 4, false);
        check.due("-1 with sign", x.fits(0, 0, -1), true);
        check.due("-1 without, another operand", x.fits(0, 1, -1), false);
        check.due("-1 without, another form", x.fits(1, 0, -1), false);
    }

    private static void wrongArguments(Check check) {
        for (int form : Check.WRONG_FORMS) {
            check.refused(Samples::mixed, "operand(" + form + ", 0, 8)",
                    x -> x.operand(form, 0, 8, true), Check.ARGUMENT);
        }
        for (int operand : Check.WRONG_OPERANDS) {
            check.refused(Samples::mixed, "operand(1, " + operand + ", 8)",
                    x -> x.operand(1, operand, 8, true), Check.ARGUMENT);
        }
        for (int n : Check.WRONG_BIT_COUNTS) {
            check.refused(Samples::mixed, "operand(1, 0, " + n + ")",
                    x -> x.operand(1, 0, n, true), Check.ARGUMENT);
            check.refused(Samples::mixed, "operand(0, 0, " + n + "), n before what is there",
                    x -> x.operand(0, 0, n, true), Check.ARGUMENT);
        }
    }

    private static void operandThatIsThere(Check check) {
        check.refused(Samples::mixed, "operand(0, 0, 8, false) again",
                x -> x.operand(0, 0, 8, false), Check.STATE);
        check.refused(Samples::mixed, "operand(0, 5, 64, true) again",
                x -> x.operand(0, 5, 64, true), Check.STATE);
        check.refused(Samples::mixed, "operand(1, 2, 1, false), in part in the word",
                x -> x.operand(1, 2, 1, false), Check.STATE);
        check.refused(Samples::mixed, "operand(2, 0, 2, true), not in the word",
                x -> x.operand(2, 0, 2, true), Check.STATE);
    }
}
