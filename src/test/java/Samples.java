/** Objects that several tests begin with. */
final class Samples {
    private Samples() {
    }

    /**
     * Form 0 is whole: 101 aaaaa bbbb 10 aaa, operand 0 (a) of 8 bits with sign, operand 5 (b) of 4
     * without. Form 1 is not: 01 and bits 6..5 of operand 2, of 7 bits with sign. Form 2 has 64
     * fixed bits and operand 0. Form 7 is whole: operand 3 of 64 bits. The others are empty.
     */
    static SliceCoder mixed() {
        SliceCoder x = new SliceCoder();
        x.operand(0, 0, 8, true);
        x.operand(0, 5, 4, false);
        x.fixed(0, 3, 5);
        x.slice(0, 0, 7, 3);
        x.slice(0, 5, 3, 0);
        x.fixed(0, 2, 2);
        x.slice(0, 0, 2, 0);
        x.operand(1, 2, 7, true);
        x.fixed(1, 2, 1);
        x.slice(1, 2, 6, 5);
        x.operand(2, 0, 1, false);
        x.fixed(2, 64, 0x16A5A);
        x.operand(7, 3, 64, true);
        x.slice(7, 3, 63, 0);
        x.number(0, -5);
        x.number(3, Long.MIN_VALUE);
        x.number(5, 9);
        return x;
    }

    /** Every form has operand 0, of 2 bits without sign, in the word or not. */
    static SliceCoder alike(boolean whole) {
        SliceCoder x = new SliceCoder();
        for (int form = 0; form < 8; form++) {
            x.operand(form, 0, 2, false);
            if (whole) {
                x.slice(form, 0, 1, 0);
            }
        }
        return x;
    }

    /** One operand of n bits, the whole word. */
    static SliceCoder single(int form, int operand, int n, boolean sign) {
        SliceCoder x = new SliceCoder();
        x.operand(form, operand, n, sign);
        x.slice(form, operand, n - 1, 0);
        return x;
    }

    /** A form by a pattern, the highest bit first: 0, 1, or x for the next lower bit of operand 0. */
    static void tell(SliceCoder x, int form, String pattern) {
        int free = pattern.length() - pattern.replace("x", "").length();
        if (free > 0) {
            x.operand(form, 0, free, false);
        }
        for (char c : pattern.toCharArray()) {
            if (c == 'x') {
                free--;
                x.slice(form, 0, free, free);
            } else {
                x.fixed(form, 1, c - '0');
            }
        }
    }
}
