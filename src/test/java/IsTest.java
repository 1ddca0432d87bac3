/** Promise 10. */
public final class IsTest {
    public static void main(String[] args) {
        Check check = new Check();
        noBits(check);
        fixedAndFreeBits(check);
        notWhole(check);
        allBits(check);
        nothingBeyondTheLength(check);
        emptyInEveryForm(check);
        samePatternWholeOrNot(check);
        for (int form : Check.WRONG_FORMS) {
            check.refused(Samples::mixed, "is(" + form + ", 0)", x -> x.is(form, 0), Check.ARGUMENT);
        }
        check.end();
    }

    /** '(.. of one without bits: 0 alone)'. */
    private static void noBits(Check check) {
        SliceCoder x = new SliceCoder();
        check.due("0 of no bits", x.is(7, 0), true);
        for (int bit = 0; bit < 64; bit++) {
            check.due("bit " + bit + " of no bits", x.is(7, 1L << bit), false);
        }
        x.operand(7, 0, 3, false);
        check.due("0 of no bits with an operand", x.is(7, 0), true);
        check.due("1 of no bits with an operand", x.is(7, 1), false);
    }

    private static void fixedAndFreeBits(Check check) {
        SliceCoder x = new SliceCoder();
        Samples.tell(x, 0, "1x0x");
        for (long word = 0; word < 64; word++) {
            check.due(word + " of 1x0x", x.is(0, word), word < 16 && (word & 10) == 8);
        }
        check.due("-1 of 1x0x", x.is(0, -1), false);
        x.number(0, 99);
        check.due("8 of 1x0x whatever number 0 is", x.is(0, 8), true);
    }

    /** '(WHOLE or not ..)'. */
    private static void notWhole(Check check) {
        SliceCoder x = Samples.mixed();
        for (long word = 0; word < 32; word++) {
            check.due(word + " of 01xx", x.is(1, word), word >= 4 && word < 8);
        }
        check.due("the fixed word", x.is(2, 0x16A5A), true);
        check.due("another", x.is(2, 0x16A5B), false);
        check.due("one with the highest bit", x.is(2, Long.MIN_VALUE + 0x16A5A), false);
    }

    private static void allBits(Check check) {
        SliceCoder x = Samples.single(0, 0, 64, true);
        x.fixed(1, 64, Long.MIN_VALUE);
        for (long word : new long[] {0, 1, -1, Long.MIN_VALUE, Long.MAX_VALUE}) {
            check.due(word + " of an operand of 64 bits", x.is(0, word), true);
            check.due(word + " of the highest bit", x.is(1, word), word == Long.MIN_VALUE);
        }
    }

    /** The last bit inside the length and the first one outside it. */
    private static void nothingBeyondTheLength(Check check) {
        for (int n = 1; n <= 63; n++) {
            SliceCoder x = Samples.single(0, 0, n, true);
            check.due("the most of " + n + " bits", x.is(0, -1L >>> (64 - n)), true);
            check.due("one more than " + n + " bits", x.is(0, 1L << n), false);
            check.due("-1 of " + n + " bits", x.is(0, -1), false);
            check.due("the highest bit of " + n + " bits", x.is(0, Long.MIN_VALUE), false);
        }
    }

    private static void emptyInEveryForm(Check check) {
        SliceCoder x = new SliceCoder();
        for (int form = 0; form < 8; form++) {
            for (long word : new long[] {0, 1, -1, 2, Long.MIN_VALUE, Long.MAX_VALUE}) {
                check.due(word + " of no bits in form " + form, x.is(form, word), word == 0);
            }
        }
        x.fixed(7, 3, 5);
        x.clear(7);
        check.due("0 of a cleared form", x.is(7, 0), true);
        check.due("5 of a cleared form", x.is(7, 5), false);
    }

    /** The same three bits of a word, first of an operand that is whole, then of one that lacks a bit. */
    private static void samePatternWholeOrNot(Check check) {
        SliceCoder x = new SliceCoder();
        x.operand(0, 0, 2, true);
        x.operand(1, 0, 3, true);
        for (int form = 0; form < 2; form++) {
            x.slice(form, 0, 1, 1);
            x.fixed(form, 1, 1);
            x.slice(form, 0, 0, 0);
        }
        check.due("form 0 is whole", x.whole(0), true);
        check.due("form 1 is whole", x.whole(1), false);
        for (long word = -2; word < 18; word++) {
            boolean due = word >= 0 && word < 8 && (word & 2) == 2;
            check.due(word + " of x1x, whole", x.is(0, word), due);
            check.due(word + " of x1x, not whole", x.is(1, word), due);
        }
    }
}
