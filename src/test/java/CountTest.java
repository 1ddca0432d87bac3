/** Promise 13. */
public final class CountTest {
    public static void main(String[] args) {
        Check check = new Check();
        SliceCoder x = Samples.mixed();
        counts(check, x, 0, 17, 5, 2, 0);
        counts(check, x, 1, 4, 2, 1, 5);
        counts(check, x, 2, 64, 64, 1, 1);
        counts(check, x, 3, 0, 0, 0, 0);
        counts(check, x, 7, 64, 0, 1, 0);
        x.operand(1, 5, 64, true);
        counts(check, x, 1, 4, 2, 2, 69);
        x.slice(1, 5, 40, 31);
        counts(check, x, 1, 14, 2, 2, 59);
        x.fixed(1, 50, 0);
        counts(check, x, 1, 64, 52, 2, 59);
        x.clear(1);
        counts(check, x, 1, 0, 0, 0, 0);
        emptyAndFull(check);
        bitByBit(check);
        refusedOnesDoNotCount(check);
        wrongArguments(check);
        check.end();
    }

    private static void counts(Check check, SliceCoder x, int form, int... due) {
        for (int what = 0; what < 4; what++) {
            check.due("count(" + form + ", " + what + ")", x.count(form, what), due[what]);
        }
    }

    /** The least and the most that each can be. */
    private static void emptyAndFull(Check check) {
        for (int form : new int[] {0, 7}) {
            SliceCoder x = new SliceCoder();
            counts(check, x, form, 0, 0, 0, 0);
            x.fixed(form, 64, 0);
            counts(check, x, form, 64, 64, 0, 0);
            for (int k = 0; k < 6; k++) {
                x.operand(form, k, 64, false);
            }
            counts(check, x, form, 64, 64, 6, 384);
            x.clear(form);
            counts(check, x, form, 0, 0, 0, 0);
            counts(check, x, 3, 0, 0, 0, 0);
        }
        counts(check, Samples.single(0, 5, 64, true), 0, 64, 0, 1, 0);
    }

    private static void bitByBit(Check check) {
        SliceCoder x = new SliceCoder();
        x.operand(0, 3, 32, true);
        for (int i = 0; i < 32; i++) {
            x.slice(0, 3, i, i);
            counts(check, x, 0, 2 * i + 1, i, 1, 31 - i);
            x.fixed(0, 1, i);
            counts(check, x, 0, 2 * i + 2, i + 1, 1, 31 - i);
        }
    }

    private static void refusedOnesDoNotCount(Check check) {
        SliceCoder x = Samples.mixed();
        check.due("an operand again", Check.answerOf(y -> y.operand(1, 2, 64, true), x), Check.STATE);
        check.due("bits without room", Check.answerOf(y -> y.fixed(1, 61, 0), x), Check.INDEX);
        check.due("bits that are not there", Check.answerOf(y -> y.slice(1, 2, 7, 0), x), Check.INDEX);
        check.due("a bit in the word", Check.answerOf(y -> y.slice(1, 2, 5, 0), x), Check.STATE);
        counts(check, x, 1, 4, 2, 1, 5);
    }

    /** 'IllegalArgumentException, for another what, too'. */
    private static void wrongArguments(Check check) {
        for (int form : Check.WRONG_FORMS) {
            for (int what = -1; what < 5; what++) {
                int w = what;
                check.refused(Samples::mixed, "count(" + form + ", " + w + ")",
                        x -> x.count(form, w), Check.ARGUMENT);
            }
        }
        for (int what : new int[] {-1, 4, Integer.MIN_VALUE, Integer.MAX_VALUE}) {
            check.refused(Samples::mixed, "count(0, " + what + ")",
                    x -> x.count(0, what), Check.ARGUMENT);
        }
    }
}
