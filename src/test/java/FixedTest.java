/** Promise 4. */
public final class FixedTest {
    public static void main(String[] args) {
        Check check = new Check();
        piecesFollowOneAnother(check);
        lowestBitsAreTaken(check);
        everyLength(check);
        wrongArguments(check);
        noMoreThanAWord(check);
        everyLengthAndEveryNext(check);
        oneTooManyChangesNothing(check);
        check.end();
    }

    /** 'The next n bits of the WORD .., the highest first: how many it has'. */
    private static void piecesFollowOneAnother(Check check) {
        SliceCoder x = new SliceCoder();
        check.due("fixed(0, 3, 6)", () -> x.fixed(0, 3, 6), 3);
        check.due("word 110", () -> x.encode(0), 6);
        check.due("fixed(0, 1, 1)", () -> x.fixed(0, 1, 1), 4);
        check.due("word 1101", () -> x.encode(0), 13);
        check.due("fixed(0, 4, 2)", () -> x.fixed(0, 4, 2), 8);
        check.due("word 11010010", () -> x.encode(0), 0xD2);
        check.due("form 1", x.count(1, 0), 0);
        check.due("fixed(7, 2, 1)", () -> x.fixed(7, 2, 1), 2);
        check.due("form 0 after form 7", () -> x.encode(0), 0xD2);
    }

    /** 'the n lowest ones of v': those above make no difference. */
    private static void lowestBitsAreTaken(Check check) {
        SliceCoder x = new SliceCoder();
        check.due("fixed(0, 4, -6)", () -> x.fixed(0, 4, -6), 4);
        check.due("word 1010", () -> x.encode(0), 10);
        check.due("fixed(0, 4, 256 + 3)", () -> x.fixed(0, 4, 256 + 3), 8);
        check.due("word 10100011", () -> x.encode(0), 0xA3);
        check.due("fixed(1, 1, MIN + 1)", () -> x.fixed(1, 1, Long.MIN_VALUE + 1), 1);
        check.due("word 1", () -> x.encode(1), 1);
        check.due("fixed(2, 40, ..)", () -> x.fixed(2, 40, 0xFFFFFF9876543210L), 40);
        check.due("40 bits", () -> x.encode(2), 0x9876543210L);
    }

    private static void everyLength(Check check) {
        long v = 0x9E3779B97F4A7C15L;
        for (int n = 1; n <= 64; n++) {
            int m = n;
            SliceCoder x = new SliceCoder();
            check.due("fixed(0, " + n + ", v)", () -> x.fixed(0, m, v), n);
            check.due("word of " + n + " bits", () -> x.encode(0), v << (64 - n) >>> (64 - n));
            check.due("fixed bits of " + n, x.count(0, 1), n);
            if (n < 64) {
                check.due("fixed(0, " + (64 - n) + ", v)", () -> x.fixed(0, 64 - m, v), 64);
                check.due("word of both", () -> x.encode(0),
                        v << (64 - n) | v << n >>> n);
            }
        }
    }

    /** 'IllegalArgumentException: form, n is not 1..64'. */
    private static void wrongArguments(Check check) {
        for (int form : Check.WRONG_FORMS) {
            check.refused(Samples::mixed, "fixed(" + form + ", 1, 1)",
                    x -> x.fixed(form, 1, 1), Check.ARGUMENT);
        }
        for (int n : Check.WRONG_BIT_COUNTS) {
            check.refused(Samples::mixed, "fixed(0, " + n + ", 1)",
                    x -> x.fixed(0, n, 1), Check.ARGUMENT);
            check.refused(Samples::mixed, "fixed(2, " + n + ", 1) of 64 bits, n first",
                    x -> x.fixed(2, n, 1), Check.ARGUMENT);
        }
    }

    /** 'IndexOutOfBoundsException: there would be more than 64'. */
    private static void noMoreThanAWord(Check check) {
        check.refused(Samples::mixed, "fixed(2, 1, 0) of 64 bits", x -> x.fixed(2, 1, 0), Check.INDEX);
        check.refused(Samples::mixed, "fixed(7, 1, 1) of 64 bits", x -> x.fixed(7, 1, 1), Check.INDEX);
        check.refused(Samples::mixed, "fixed(0, 48, 0) of 17 bits", x -> x.fixed(0, 48, 0), Check.INDEX);
        check.refused(Samples::mixed, "fixed(0, 64, 0) of 17 bits", x -> x.fixed(0, 64, 0), Check.INDEX);
        SliceCoder x = Samples.mixed();
        check.due("fixed(0, 47, 0) of 17 bits", () -> x.fixed(0, 47, 0), 64);
        check.due("word of these 64", () -> x.encode(0), 98099L << 47);
    }

    /** 64 is the last length that is taken, 65 the first that is not, from wherever it is reached. */
    private static void everyLengthAndEveryNext(Check check) {
        for (int length = 0; length <= 64; length++) {
            for (int n = 1; n <= 64; n++) {
                int next = n;
                SliceCoder x = ones(length);
                boolean room = length + n <= 64;
                check.due("fixed(0, " + n + ") of " + length + " bits", () -> x.fixed(0, next, 0),
                        room ? length + n : Check.INDEX);
                check.due("bits then", x.count(0, 0), room ? length + n : length);
            }
        }
    }

    private static void oneTooManyChangesNothing(Check check) {
        for (int length : new int[] {1, 2, 31, 32, 33, 62, 63, 64}) {
            check.refused(() -> ones(length), "fixed(0, " + (65 - length) + ") of " + length + " bits",
                    x -> x.fixed(0, 65 - length, 0), Check.INDEX);
        }
    }

    private static SliceCoder ones(int length) {
        SliceCoder x = new SliceCoder();
        if (length > 0) {
            x.fixed(0, length, -1);
        }
        return x;
    }
}
