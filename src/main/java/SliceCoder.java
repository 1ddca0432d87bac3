/**
 * Makes words of fixed bits and slices of operands, takes them apart again, and finds forms that
 * have a word in common.
 */
public final class SliceCoder {
    private static final int FORMS = 8;
    private static final int OPERANDS = 6;
    private static final int MOST_BITS = 64;

    private final Form[] forms;
    private final long[] numbers;

    public SliceCoder() {
        forms = new Form[FORMS];
        for (int i = 0; i < FORMS; i++) {
            forms[i] = new Form();
        }
        numbers = new long[OPERANDS];
    }

    public void clear(int form) throws IllegalArgumentException {
        formAt(form).forgetAll();
    }

    public void operand(int form, int operand, int n, boolean sign)
            throws IllegalArgumentException, IllegalStateException {
        Form f = formAt(form);
        checkOperandIndex(operand);
        checkBitCount(n);
        if (f.hasOperand(operand)) {
            throw new IllegalStateException("the form has this operand");
        }
        f.addOperand(operand, n, sign);
    }

    public int fixed(int form, int n, long v)
            throws IllegalArgumentException, IndexOutOfBoundsException {
        Form f = formAt(form);
        checkBitCount(n);
        checkRoom(f, n);
        f.appendFixed(n, v);
        return f.length;
    }

    public int slice(int form, int operand, int high, int low)
            throws IllegalArgumentException, IndexOutOfBoundsException, IllegalStateException {
        Form f = formWith(form, operand);
        if (high < low) {
            throw new IllegalArgumentException("high is below low");
        }
        if (low < 0 || high >= f.widths[operand]) {
            throw new IndexOutOfBoundsException("the operand has no such bits");
        }
        checkRoom(f, high - low + 1);
        if (f.holdsAny(operand, high, low)) {
            throw new IllegalStateException("one of the bits is in the word");
        }
        f.appendSlice(operand, high, low);
        return f.length;
    }

    public boolean whole(int form) throws IllegalArgumentException {
        return formAt(form).isWhole();
    }

    public void number(int k, long v) throws IllegalArgumentException {
        checkOperandIndex(k);
        numbers[k] = v;
    }

    public boolean fits(int form, int operand, long v) throws IllegalArgumentException {
        return formWith(form, operand).canBe(operand, v);
    }

    public long encode(int form)
            throws IllegalArgumentException, IllegalStateException, ArithmeticException {
        Form f = formAt(form);
        checkWhole(f);
        if (!f.canBeAll(numbers)) {
            throw new ArithmeticException("a number does not fit");
        }
        return f.wordOf(numbers);
    }

    public boolean is(int form, long word) throws IllegalArgumentException {
        return formAt(form).matches(word);
    }

    public long decode(int form, int operand, long word)
            throws IllegalArgumentException, IllegalStateException, ArithmeticException {
        Form f = formWith(form, operand);
        checkWhole(f);
        if (!f.matches(word)) {
            throw new ArithmeticException("the word is not of the form");
        }
        return f.numberIn(operand, word);
    }

    public boolean meet(int a, int b) throws IllegalArgumentException {
        return formAt(a).sharesWordWith(formAt(b));
    }

    public int count(int form, int what) throws IllegalArgumentException {
        Form f = formAt(form);
        switch (what) {
            case 0:
                return f.length;
            case 1:
                return f.fixedBits();
            case 2:
                return f.operands();
            case 3:
                return f.missingBits();
            default:
                throw new IllegalArgumentException("what is not 0..3");
        }
    }

    private Form formAt(int form) {
        if (form < 0 || form >= FORMS) {
            throw new IllegalArgumentException("form is not 0..7");
        }
        return forms[form];
    }

    private Form formWith(int form, int operand) {
        Form f = formAt(form);
        if (!f.hasOperand(operand)) {
            throw new IllegalArgumentException("the form has no such operand");
        }
        return f;
    }

    private static void checkOperandIndex(int operand) {
        if (operand < 0 || operand >= OPERANDS) {
            throw new IllegalArgumentException("operand is not 0..5");
        }
    }

    private static void checkBitCount(int n) {
        if (n < 1 || n > MOST_BITS) {
            throw new IllegalArgumentException("n is not 1..64");
        }
    }

    private static void checkRoom(Form f, int n) {
        if (n > MOST_BITS - f.length) {
            throw new IndexOutOfBoundsException("there would be more than 64 bits");
        }
    }

    private static void checkWhole(Form f) {
        if (!f.isWhole()) {
            throw new IllegalStateException("the form is not whole");
        }
    }

    /** The operands of one form, and what each bit of its word is. */
    private static final class Form {
        private static final int FIXED = -1;

        /** 0 where there is no operand. */
        private final int[] widths;
        private final boolean[] signs;

        /** By order of telling, so that a bit told later moves none of these. */
        private final int[] owners;
        /** The bit itself where the owner is FIXED, else which bit of the owner it is. */
        private final int[] contents;
        private int length;

        Form() {
            widths = new int[OPERANDS];
            signs = new boolean[OPERANDS];
            owners = new int[MOST_BITS];
            contents = new int[MOST_BITS];
            length = 0;
        }

        void forgetAll() {
            for (int i = 0; i < OPERANDS; i++) {
                widths[i] = 0;
            }
            length = 0;
        }

        boolean hasOperand(int operand) {
            return operand >= 0 && operand < OPERANDS && widths[operand] > 0;
        }

        void addOperand(int operand, int width, boolean sign) {
            widths[operand] = width;
            signs[operand] = sign;
        }

        void appendFixed(int n, long v) {
            for (int bit = n - 1; bit >= 0; bit--) {
                append(FIXED, bitOf(v, bit));
            }
        }

        void appendSlice(int operand, int high, int low) {
            for (int bit = high; bit >= low; bit--) {
                append(operand, bit);
            }
        }

        private void append(int owner, int content) {
            owners[length] = owner;
            contents[length] = content;
            length++;
        }

        boolean holdsAny(int operand, int high, int low) {
            for (int i = 0; i < length; i++) {
                if (owners[i] == operand && contents[i] >= low && contents[i] <= high) {
                    return true;
                }
            }
            return false;
        }

        int fixedBits() {
            int found = 0;
            for (int i = 0; i < length; i++) {
                if (owners[i] == FIXED) {
                    found++;
                }
            }
            return found;
        }

        int operands() {
            int found = 0;
            for (int i = 0; i < OPERANDS; i++) {
                if (widths[i] > 0) {
                    found++;
                }
            }
            return found;
        }

        int missingBits() {
            int all = 0;
            for (int i = 0; i < OPERANDS; i++) {
                all += widths[i];
            }
            return all - (length - fixedBits());
        }

        /** No bit of an operand is ever taken twice, so none missing means each is there once. */
        boolean isWhole() {
            return missingBits() == 0;
        }

        boolean canBe(int operand, long v) {
            int width = widths[operand];
            if (width == MOST_BITS) {
                return true;
            }
            if (signs[operand]) {
                long signBits = v >> (width - 1);
                return signBits == 0 || signBits == -1;
            }
            return v >>> width == 0;
        }

        boolean canBeAll(long[] numbers) {
            for (int i = 0; i < OPERANDS; i++) {
                if (widths[i] > 0 && !canBe(i, numbers[i])) {
                    return false;
                }
            }
            return true;
        }

        long wordOf(long[] numbers) {
            long word = 0;
            for (int i = 0; i < length; i++) {
                int bit = owners[i] == FIXED ? contents[i] : bitOf(numbers[owners[i]], contents[i]);
                word = (word << 1) | bit;
            }
            return word;
        }

        long numberIn(int operand, long word) {
            long number = 0;
            for (int i = 0; i < length; i++) {
                if (owners[i] == operand) {
                    number |= (long) bitOf(word, length - 1 - i) << contents[i];
                }
            }
            int unused = MOST_BITS - widths[operand];
            return signs[operand] ? (number << unused) >> unused : number;
        }

        boolean matches(long word) {
            for (int place = 0; place < MOST_BITS; place++) {
                if (!allows(place, bitOf(word, place))) {
                    return false;
                }
            }
            return true;
        }

        /** A bit of an operand is in one place alone, so each place can be looked at by itself. */
        boolean sharesWordWith(Form other) {
            for (int place = 0; place < MOST_BITS; place++) {
                boolean zero = allows(place, 0) && other.allows(place, 0);
                boolean one = allows(place, 1) && other.allows(place, 1);
                if (!zero && !one) {
                    return false;
                }
            }
            return true;
        }

        /** Whether a word of this form may have this bit there; places count from the lowest. */
        private boolean allows(int place, int bit) {
            if (place >= length) {
                return bit == 0;
            }
            int told = length - 1 - place;
            return owners[told] != FIXED || contents[told] == bit;
        }

        private static int bitOf(long v, int place) {
            return (int) ((v >>> place) & 1);
        }
    }
}
