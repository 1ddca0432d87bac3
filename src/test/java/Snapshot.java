import java.util.concurrent.Callable;
import java.util.function.Supplier;

/**
 * All that the public face can show of an object. To read it through changes the object, so each part
 * is read from an object of its own, made alike; none of them needs more than 512 calls.
 */
final class Snapshot {
    private final StringBuilder all = new StringBuilder();

    private Snapshot() {
    }

    static String of(Supplier<SliceCoder> made) {
        Snapshot shot = new Snapshot();
        for (int form = 0; form < 8; form++) {
            shot.all.append("\nform ").append(form);
            shot.addCounts(made.get(), form);
            shot.addOperands(made.get(), form);
            shot.addPlaces(made.get(), form, 0);
            shot.addPlaces(made.get(), form, 1);
            shot.addLayout(made.get(), form);
        }
        shot.all.append("\nother forms");
        shot.addMeetings(made.get());
        shot.addNumbers(made.get());
        return shot.all.toString();
    }

    private void addCounts(SliceCoder x, int form) {
        for (int what = 0; what < 4; what++) {
            add(x.count(form, what));
        }
        add(x.whole(form));
        add(answer(() -> x.encode(form)));
    }

    /** Width and sign of each operand, by the numbers that it can be. */
    private void addOperands(SliceCoder x, int form) {
        for (int k = 0; k < 6; k++) {
            int operand = k;
            add(answer(() -> x.fits(form, operand, -1)));
            add(isThere(x, form, k) ? mostBits(x, form, k) : 0);
        }
    }

    private static int mostBits(SliceCoder x, int form, int k) {
        int bits = 0;
        while (bits < 63 && x.fits(form, k, (1L << (bits + 1)) - 1)) {
            bits++;
        }
        return bits;
    }

    /** Where a word of the form may have this bit, found by forms that have it in one place alone. */
    private void addPlaces(SliceCoder x, int form, int bit) {
        int probe = (form + 1) % 8;
        all.append(' ');
        for (int place = 63; place >= 0; place--) {
            x.clear(probe);
            x.operand(probe, 0, 64, false);
            if (place < 63) {
                x.slice(probe, 0, 63, place + 1);
            }
            x.fixed(probe, 1, bit);
            if (place > 0) {
                x.slice(probe, 0, place - 1, 0);
            }
            all.append(x.meet(form, probe) ? 'm' : '-');
        }
    }

    /** Which bits of operands are in the word, and where, once those that have room are added. */
    private void addLayout(SliceCoder x, int form) {
        for (int k = 0; k < 6; k++) {
            x.number(k, 0);
            addMissingBits(x, form, k);
        }
        add(answer(() -> x.encode(form)));
        for (int k = 0; x.whole(form) && k < 6; k++) {
            addWords(x, form, k);
        }
    }

    private void addMissingBits(SliceCoder x, int form, int k) {
        boolean more = isThere(x, form, k);
        for (int i = 0; more && i < 64; i++) {
            int bit = i;
            String told = answer(() -> x.slice(form, k, bit, bit));
            add(told);
            more = !told.equals(Check.INDEX);
        }
    }

    private void addWords(SliceCoder x, int form, int k) {
        boolean there = isThere(x, form, k);
        boolean sign = there && x.fits(form, k, -1);
        for (int bit = 0; there && bit < 64; bit++) {
            x.number(k, sign ? -1L << bit : 1L << bit);
            String word = answer(() -> x.encode(form));
            add(word);
            there = !word.equals(Check.ARITHMETIC);
            if (there) {
                add(answer(() -> x.decode(form, k, Long.parseLong(word))));
            }
        }
        x.number(k, 0);
    }

    private void addMeetings(SliceCoder x) {
        for (int a = 0; a < 8; a++) {
            for (int b = 0; b < 8; b++) {
                all.append(x.meet(a, b) ? 'm' : '-');
            }
        }
    }

    private void addNumbers(SliceCoder x) {
        for (int k = 0; k < 6; k++) {
            x.clear(7);
            x.operand(7, k, 64, true);
            x.slice(7, k, 63, 0);
            add(x.encode(7));
        }
    }

    private static boolean isThere(SliceCoder x, int form, int operand) {
        return !answer(() -> x.fits(form, operand, 0)).equals(Check.ARGUMENT);
    }

    private static String answer(Callable<?> call) {
        return Check.answer(call);
    }

    private void add(Object part) {
        all.append(' ').append(part);
    }
}
