/** Promise 12. */
public final class MeetTest {
    private static final String[] SHORT = {"", "0", "1", "x", "00", "01", "10", "11", "0x", "1x", "x0",
        "x1", "xx", "000", "001", "010", "0x1", "x10", "1x1", "xx0", "x0x", "0xx", "1xx", "xxx"};

    public static void main(String[] args) {
        Check check = new Check();
        for (String a : SHORT) {
            for (String b : SHORT) {
                asTheWordsSay(check, a, b);
            }
        }
        longForms(check);
        itself(check);
        emptyForms(check);
        everyPairOfForms(check);
        notWhole(check);
        wrongArguments(check);
        check.end();
    }

    /** The words themselves are tried, not the patterns compared. */
    private static void asTheWordsSay(Check check, String a, String b) {
        SliceCoder x = new SliceCoder();
        Samples.tell(x, 0, a);
        Samples.tell(x, 7, b);
        boolean common = false;
        for (long word = 0; word < 16; word++) {
            common |= x.is(0, word) && x.is(7, word);
        }
        check.due("'" + a + "' meets '" + b + "'", x.meet(0, 7), common);
        check.due("'" + b + "' meets '" + a + "'", x.meet(7, 0), common);
    }

    private static void longForms(Check check) {
        SliceCoder x = new SliceCoder();
        x.fixed(0, 64, Long.MIN_VALUE);
        x.fixed(1, 63, 0);
        x.operand(2, 0, 64, true);
        x.slice(2, 0, 63, 0);
        x.operand(3, 1, 63, false);
        x.slice(3, 1, 62, 0);
        x.fixed(3, 1, 1);
        x.fixed(4, 1, 1);
        check.due("highest bit and 63 zeros", x.meet(0, 1), false);
        check.due("highest bit and 64 free ones", x.meet(0, 2), true);
        check.due("63 zeros and 64 free ones", x.meet(1, 2), true);
        check.due("lowest bit 1 and 63 zeros", x.meet(3, 1), false);
        check.due("lowest bit 1 and highest alone", x.meet(3, 0), false);
        check.due("lowest bit 1 and 64 free ones", x.meet(3, 2), true);
        check.due("a long form and the word 1", x.meet(3, 4), true);
        check.due("63 zeros and no bits", x.meet(1, 6), true);
        check.due("a one and no bits", x.meet(6, 4), false);
    }

    /** '(one always meets itself)'. */
    private static void itself(Check check) {
        SliceCoder x = Samples.mixed();
        for (int form = 0; form < 8; form++) {
            check.due("form " + form + " meets itself", x.meet(form, form), true);
        }
    }

    /** No word but 0 is of a form without bits. */
    private static void emptyForms(Check check) {
        SliceCoder x = new SliceCoder();
        x.fixed(1, 64, 0);
        x.fixed(2, 64, 1);
        x.fixed(3, 64, Long.MIN_VALUE);
        x.operand(4, 0, 64, true);
        x.operand(5, 0, 64, true);
        x.slice(5, 0, 63, 0);
        for (int other : new int[] {0, 1, 4, 5}) {
            check.due("no bits and form " + other, x.meet(0, other), true);
            check.due("form " + other + " and no bits", x.meet(other, 0), true);
        }
        for (int other : new int[] {2, 3}) {
            check.due("no bits and form " + other, x.meet(0, other), false);
            check.due("form " + other + " and no bits", x.meet(other, 0), false);
            check.due("an operand that is not in the word, and form " + other, x.meet(4, other), false);
        }
    }

    /** Form f is the word f / 2, so each meets one other alone. */
    private static void everyPairOfForms(Check check) {
        SliceCoder x = new SliceCoder();
        for (int form = 0; form < 8; form++) {
            x.fixed(form, 2 + 8 * form - form / 2, form / 2);
        }
        for (int a = 0; a < 8; a++) {
            for (int b = 0; b < 8; b++) {
                check.due("meet(" + a + ", " + b + ")", x.meet(a, b), a / 2 == b / 2);
            }
        }
    }

    /** Bits of operands that are not in the word make no difference. */
    private static void notWhole(Check check) {
        SliceCoder x = new SliceCoder();
        x.fixed(0, 3, 5);
        x.operand(1, 0, 8, false);
        x.slice(1, 0, 7, 6);
        x.fixed(1, 1, 1);
        x.operand(2, 0, 8, false);
        x.slice(2, 0, 0, 0);
        x.fixed(2, 2, 2);
        check.due("101 and xx1", x.meet(0, 1), true);
        check.due("101 and x10", x.meet(0, 2), false);
        check.due("xx1 and x10", x.meet(1, 2), false);
    }

    /** 'IllegalArgumentException': the first form, the second, or both. */
    private static void wrongArguments(Check check) {
        for (int form : Check.WRONG_FORMS) {
            check.refused(Samples::mixed, "meet(" + form + ", 0)", x -> x.meet(form, 0), Check.ARGUMENT);
            check.refused(Samples::mixed, "meet(7, " + form + ")", x -> x.meet(7, form), Check.ARGUMENT);
            check.refused(Samples::mixed, "meet(" + form + ", " + form + ")",
                    x -> x.meet(form, form), Check.ARGUMENT);
        }
        check.refused(Samples::mixed, "meet(0, 8), forms that do not meet otherwise",
                x -> x.meet(0, 8), Check.ARGUMENT);
    }
}
