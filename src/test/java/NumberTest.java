/** Promise 7. */
public final class NumberTest {
    public static void main(String[] args) {
        Check check = new Check();
        eachNumberIsItsOwn(check);
        numbersAreOfAllForms(check);
        anyNumberIsTaken(check);
        zeroAtFirst(check);
        fromNowOn(check);
        operandNeedNotBeThere(check);
        clearLeavesThem(check);
        whatDoesNotFitIsTaken(check);
        for (int k : Check.WRONG_OPERANDS) {
            check.refused(Samples::mixed, "number(" + k + ", 1)", x -> x.number(k, 1), Check.ARGUMENT);
        }
        check.end();
    }

    private static void eachNumberIsItsOwn(Check check) {
        SliceCoder x = new SliceCoder();
        for (int k = 0; k < 6; k++) {
            x.operand(0, k, 4, false);
            x.slice(0, k, 3, 0);
        }
        check.due("numbers at first", () -> x.encode(0), 0);
        for (int k = 0; k < 6; k++) {
            x.number(k, k + 1);
        }
        check.due("numbers 1 to 6", () -> x.encode(0), 0x123456);
        x.number(0, 9);
        x.number(5, 15);
        check.due("two of them anew", () -> x.encode(0), 0x92345F);
        check.due("and they stay", () -> x.encode(0), 0x92345F);
    }

    /** '(.. of all FORMS)'. */
    private static void numbersAreOfAllForms(Check check) {
        SliceCoder x = new SliceCoder();
        x.number(2, 6);
        for (int form = 0; form < 8; form++) {
            int f = form;
            x.operand(f, 2, 4, false);
            x.slice(f, 2, 3, 0);
            check.due("number 2 in form " + f, () -> x.encode(f), 6);
        }
    }

    /** Each long is a number: the least, the greatest, and those round 0. */
    private static void anyNumberIsTaken(Check check) {
        SliceCoder x = Samples.single(0, 3, 64, true);
        for (long v : new long[] {Long.MIN_VALUE, -1, 0, 1, Long.MAX_VALUE}) {
            check.due("number(3, " + v + ")", () -> { x.number(3, v); return "taken"; }, "taken");
            check.due("word of " + v, () -> x.encode(0), v);
        }
    }

    /** '(0 at first ..)': each of the six, in each form. */
    private static void zeroAtFirst(Check check) {
        for (int k = 0; k < 6; k++) {
            for (int form = 0; form < 8; form++) {
                int f = form;
                SliceCoder x = Samples.single(f, k, 64, k % 2 == 0);
                check.due("number " + k + " at first, form " + f, () -> x.encode(f), 0);
                for (int other = 0; other < 6; other++) {
                    if (other != k) {
                        x.number(other, -1);
                    }
                }
                check.due("number " + k + " when the others are told", () -> x.encode(f), 0);
            }
        }
    }

    /** '.. is v from now on': until another is told, and as 0 again too. */
    private static void fromNowOn(Check check) {
        for (int k : new int[] {0, 5}) {
            SliceCoder x = Samples.single(7, k, 64, true);
            for (long v : new long[] {5, 5, -1, 0, Long.MIN_VALUE, 1}) {
                x.number(k, v);
                check.due("number " + k + " is " + v, () -> x.encode(7), v);
                check.due("a refused one", () -> { x.number(6, 99); return "taken"; }, Check.ARGUMENT);
                check.due("number " + k + " is still " + v, () -> x.encode(7), v);
            }
        }
    }

    /** It is no number of a form, so no form needs to have the operand, then or later. */
    private static void operandNeedNotBeThere(Check check) {
        for (int k = 0; k < 6; k++) {
            int operand = k;
            SliceCoder x = new SliceCoder();
            check.due("number(" + k + ") without operands",
                    Check.answerOf(y -> y.number(operand, 6), x), "nothing thrown");
            x.operand(7, k, 3, false);
            x.slice(7, k, 2, 0);
            check.due("the operand is told later", () -> x.encode(7), 6);
        }
    }

    private static void clearLeavesThem(Check check) {
        SliceCoder x = Samples.single(0, 5, 4, false);
        x.number(5, 9);
        for (int form = 0; form < 8; form++) {
            x.clear(form);
        }
        x.operand(0, 5, 4, false);
        x.slice(0, 5, 3, 0);
        check.due("number 5 when all forms are cleared", () -> x.encode(0), 9);
    }

    /** Whether it fits is looked at by encode() alone, for a form that has the operand. */
    private static void whatDoesNotFitIsTaken(Check check) {
        SliceCoder x = Samples.single(0, 0, 1, false);
        x.operand(1, 0, 8, false);
        x.slice(1, 0, 7, 0);
        check.due("2 for one bit", Check.answerOf(y -> y.number(0, 2), x), "nothing thrown");
        check.due("it does not fit one bit", () -> x.encode(0), Check.ARITHMETIC);
        check.due("it does fit eight", () -> x.encode(1), 2);
        x.number(0, 1);
        check.due("1 fits one bit", () -> x.encode(0), 1);
    }
}
