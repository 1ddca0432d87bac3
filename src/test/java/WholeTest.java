/** Promise 6. */
public final class WholeTest {
    public static void main(String[] args) {
        Check check = new Check();
        withoutOperands(check);
        bitByBit(check);
        eachOperandCounts(check);
        moreBitsThanAWord(check);
        eachOneMissing(check);
        fullWordWithoutABit(check);
        for (int form : Check.WRONG_FORMS) {
            check.refused(Samples::mixed, "whole(" + form + ")", x -> x.whole(form), Check.ARGUMENT);
        }
        check.end();
    }

    /** An empty form, fixed bits alone, and a full word of them. */
    private static void withoutOperands(Check check) {
        SliceCoder x = new SliceCoder();
        check.due("no bits", x.whole(7), true);
        x.fixed(7, 5, 0);
        check.due("fixed bits alone", x.whole(7), true);
        x.fixed(7, 59, 0);
        check.due("64 fixed bits alone", x.whole(7), true);
    }

    /** 63 bits of 64 are the most that are not enough. */
    private static void bitByBit(Check check) {
        SliceCoder x = new SliceCoder();
        x.operand(0, 5, 64, true);
        check.due("no bit of 64", x.whole(0), false);
        for (int bit = 0; bit < 64; bit++) {
            x.slice(0, 5, bit, bit);
            check.due(bit + 1 + " bits of 64", x.whole(0), bit == 63);
        }
    }

    private static void eachOperandCounts(Check check) {
        SliceCoder x = new SliceCoder();
        x.operand(3, 0, 2, false);
        x.operand(3, 1, 2, false);
        x.fixed(3, 2, 3);
        check.due("as many fixed bits as are missing", x.whole(3), false);
        x.slice(3, 0, 1, 0);
        check.due("one operand of two", x.whole(3), false);
        x.slice(3, 1, 1, 1);
        check.due("one bit missing", x.whole(3), false);
        x.slice(3, 1, 0, 0);
        check.due("both operands", x.whole(3), true);
        x.fixed(3, 1, 0);
        check.due("and a fixed bit", x.whole(3), true);
        x.operand(3, 5, 1, true);
        check.due("and a new operand", x.whole(3), false);
        check.due("another form", x.whole(2), true);
    }

    /** Operands of 64 bits together can be whole, of 65 they can't. */
    private static void moreBitsThanAWord(Check check) {
        SliceCoder x = Samples.single(0, 0, 64, false);
        check.due("64 bits", x.whole(0), true);
        x.operand(0, 1, 1, false);
        check.due("65 bits", x.whole(0), false);
    }

    /** Each of the six operands can be the one that is not in the word. */
    private static void eachOneMissing(Check check) {
        for (int form : new int[] {0, 7}) {
            for (int missing = 0; missing < 6; missing++) {
                int last = missing;
                SliceCoder x = new SliceCoder();
                for (int k = 0; k < 6; k++) {
                    x.operand(form, k, 1, false);
                    if (k != missing) {
                        x.slice(form, k, 0, 0);
                    }
                }
                check.due("all but operand " + missing, x.whole(form), false);
                check.due("the last one", () -> x.slice(form, last, 0, 0), 6);
                check.due("all six", x.whole(form), true);
            }
        }
    }

    private static void fullWordWithoutABit(Check check) {
        SliceCoder x = new SliceCoder();
        x.operand(0, 0, 2, false);
        x.slice(0, 0, 1, 1);
        x.fixed(0, 63, 0);
        check.due("a full word that lacks a bit", x.whole(0), false);
        check.due("there is no room for it", () -> x.slice(0, 0, 0, 0), Check.INDEX);
        check.due("nor is it whole after that", x.whole(0), false);
    }
}
