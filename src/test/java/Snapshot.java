/** All that the public face shows of an object, in fewer calls than an object is used for. */
final class Snapshot {
    private static final long[] TRIED_NUMBERS = {-128, 15, 1L << 40};
    private static final long TRIED_WORD = 0x16A5A;

    private Snapshot() {
    }

    /** Uses the object up: form 7 is written over at the end to read the numbers. */
    static String of(SliceCoder x) {
        StringBuilder all = new StringBuilder();
        for (int form = 0; form < 8; form++) {
            addForm(all, x, form);
        }
        for (int a = 0; a < 8; a++) {
            for (int b = a + 1; b < 8; b++) {
                all.append(x.meet(a, b) ? 'm' : '-');
            }
        }
        for (int k = 0; k < 6; k++) {
            all.append(" number ").append(numberOf(x, k));
        }
        return all.toString();
    }

    private static void addForm(StringBuilder all, SliceCoder x, int form) {
        all.append("\nform ").append(form);
        for (int what = 0; what < 4; what++) {
            all.append(' ').append(x.count(form, what));
        }
        all.append(' ').append(x.whole(form));
        all.append(' ').append(Check.answer(() -> x.encode(form)));
        all.append(' ').append(x.is(form, 0)).append(x.is(form, TRIED_WORD));
        for (int operand = 0; operand < 6; operand++) {
            addOperand(all, x, form, operand);
        }
    }

    private static void addOperand(StringBuilder all, SliceCoder x, int form, int operand) {
        for (long v : TRIED_NUMBERS) {
            all.append(' ').append(Check.answer(() -> x.fits(form, operand, v)));
        }
        all.append(' ').append(Check.answer(() -> x.decode(form, operand, TRIED_WORD)));
    }

    private static long numberOf(SliceCoder x, int k) {
        x.clear(7);
        x.operand(7, k, 64, true);
        x.slice(7, k, 63, 0);
        return x.encode(7);
    }
}
