/** Promise 13. */
public final class CountTest {
    public static void main(String[] args) {
        Check check = new Check();
        SliceCoder x = Samples.mixed();
        counts(check, x, 0, 17, 5, 2, 0);
        counts(check, x, 1, 4, 2, 1, 5);
        counts(check, x, 2, 64, 64, 1, 1);
        counts(check, x, 3, 0, 0, 0, 0);
        counts(check, x, 7, 64, 0, 1, 0);
        x.operand(1, 5, 64, true);
        counts(check, x, 1, 4, 2, 2, 69);
        x.slice(1, 5, 40, 31);
        counts(check, x, 1, 14, 2, 2, 59);
        x.fixed(1, 50, 0);
        counts(check, x, 1, 64, 52, 2, 59);
        x.clear(1);
        counts(check, x, 1, 0, 0, 0, 0);
        wrongArguments(check);
        check.end();
    }

    private static void counts(Check check, SliceCoder x, int form, int... due) {
        for (int what = 0; what < 4; what++) {
            check.due("count(" + form + ", " + what + ")", x.count(form, what), due[what]);
        }
    }

    private static void wrongArguments(Check check) {
        for (int form : Check.WRONG_FORMS) {
            for (int what = -1; what < 5; what++) {
                int w = what;
                check.refused(Samples::mixed, "count(" + form + ", " + w + ")",
                        x -> x.count(form, w), Check.ARGUMENT);
            }
        }
        for (int what : new int[] {-1, 4, Integer.MIN_VALUE, Integer.MAX_VALUE}) {
            check.refused(Samples::mixed, "count(0, " + what + ")",
                    x -> x.count(0, what), Check.ARGUMENT);
        }
    }
}
