/** Promise 12. */
public final class MeetTest {
    private static final String[] SHORT = {"", "0", "1", "x", "00", "01", "10", "11", "0x", "1x", "x0",
        "x1", "xx", "000", "001", "010", "0x1", "x10", "1x1", "xx0", "x0x", "0xx", "1xx", "xxx"};

    public static void main(String[] args) {
        Check check = new Check();
        for (String a : SHORT) {
            for (String b : SHORT) {
                asTheWordsSay(check, a, b);
            }
        }
        longForms(check);
        itself(check);
        wrongArguments(check);
        check.end();
    }

    /** The words themselves are tried, not the patterns compared. */
    private static void asTheWordsSay(Check check, String a, String b) {
        SliceCoder x = new SliceCoder();
        Samples.tell(x, 0, a);
        Samples.tell(x, 7, b);
        boolean common = false;
        for (long word = 0; word < 16; word++) {
            common |= x.is(0, word) && x.is(7, word);
        }
        check.due("'" + a + "' meets '" + b + "'", x.meet(0, 7), common);
        check.due("'" + b + "' meets '" + a + "'", x.meet(7, 0), common);
    }

    private static void longForms(Check check) {
        SliceCoder x = new SliceCoder();
        x.fixed(0, 64, Long.MIN_VALUE);
        x.fixed(1, 63, 0);
        x.operand(2, 0, 64, true);
        x.slice(2, 0, 63, 0);
        x.operand(3, 1, 63, false);
        x.slice(3, 1, 62, 0);
        x.fixed(3, 1, 1);
        x.fixed(4, 1, 1);
        check.due("highest bit and 63 zeros", x.meet(0, 1), false);
        check.due("highest bit and 64 free ones", x.meet(0, 2), true);
        check.due("63 zeros and 64 free ones", x.meet(1, 2), true);
        check.due("lowest bit 1 and 63 zeros", x.meet(3, 1), false);
        check.due("lowest bit 1 and highest alone", x.meet(3, 0), false);
        check.due("lowest bit 1 and 64 free ones", x.meet(3, 2), true);
        check.due("a long form and the word 1", x.meet(3, 4), true);
        check.due("63 zeros and no bits", x.meet(1, 6), true);
        check.due("a one and no bits", x.meet(6, 4), false);
    }

    private static void itself(Check check) {
        SliceCoder x = Samples.mixed();
        for (int form = 0; form < 8; form++) {
            check.due("form " + form + " meets itself", x.meet(form, form), true);
        }
    }

    private static void wrongArguments(Check check) {
        for (int form : Check.WRONG_FORMS) {
            check.refused(Samples::mixed, "meet(" + form + ", 0)", x -> x.meet(form, 0), Check.ARGUMENT);
            check.refused(Samples::mixed, "meet(7, " + form + ")", x -> x.meet(7, form), Check.ARGUMENT);
            check.refused(Samples::mixed, "meet(" + form + ", " + form + ")",
                    x -> x.meet(form, form), Check.ARGUMENT);
        }
        check.refused(Samples::mixed, "meet(0, 8), forms that do not meet otherwise",
                x -> x.meet(0, 8), Check.ARGUMENT);
    }
}
