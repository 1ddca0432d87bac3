import java.util.function.Supplier;

/** Promise 5. */
public final class SliceTest {
    public static void main(String[] args) {
        Check check = new Check();
        bitsFollowFromHighToLow(check);
        firstAndLastBits(check);
        wrongArguments(check);
        bitsThatAreNotThere(check);
        noMoreThanAWord(check);
        bitsInTheWord(check);
        everyWidth(check);
        everyLengthAndEveryNext(check);
        everyPairOfSlices(check);
        check.end();
    }

    /** 'The next bits are those of an OPERAND from high down to low: how many it has'. */
    private static void bitsFollowFromHighToLow(Check check) {
        SliceCoder x = new SliceCoder();
        x.operand(0, 1, 6, false);
        x.operand(0, 4, 3, true);
        check.due("slice(0, 1, 2, 1)", () -> x.slice(0, 1, 2, 1), 2);
        check.due("slice(0, 4, 2, 0)", () -> x.slice(0, 4, 2, 0), 5);
        check.due("slice(0, 1, 0, 0)", () -> x.slice(0, 1, 0, 0), 6);
        check.due("slice(0, 1, 5, 3)", () -> x.slice(0, 1, 5, 3), 9);
        check.due("fixed bits", x.count(0, 1), 0);
        x.number(1, 0b110010);
        x.number(4, -3);
        check.due("word 01 101 0 110", () -> x.encode(0), 0b011010110);
        x.number(1, 0b000101);
        check.due("word 10 101 1 000", () -> x.encode(0), 0b101011000);
    }

    private static void firstAndLastBits(Check check) {
        for (int form : new int[] {0, 7}) {
            for (int operand : new int[] {0, 5}) {
                SliceCoder x = new SliceCoder();
                x.operand(form, operand, 64, false);
                check.due("the lowest bit", () -> x.slice(form, operand, 0, 0), 1);
                check.due("the highest bit", () -> x.slice(form, operand, 63, 63), 2);
                check.due("those between", () -> x.slice(form, operand, 62, 1), 64);
                x.number(operand, Long.MIN_VALUE);
                check.due("word of the highest", () -> x.encode(form), 1L << 62);
                x.number(operand, 3);
                check.due("word of the two lowest", () -> x.encode(form), (1L << 63) + 1);
            }
        }
        SliceCoder x = new SliceCoder();
        x.operand(0, 0, 1, true);
        check.due("the only bit", () -> x.slice(0, 0, 0, 0), 1);
    }

    /** 'IllegalArgumentException: form, there is no such OPERAND, high is below low'. */
    private static void wrongArguments(Check check) {
        for (int form : Check.WRONG_FORMS) {
            check.refused(Samples::mixed, "slice(" + form + ", 2, 0, 0)",
                    x -> x.slice(form, 2, 0, 0), Check.ARGUMENT);
        }
        for (int operand : Check.WRONG_OPERANDS) {
            check.refused(Samples::mixed, "slice(1, " + operand + ", 0, 0)",
                    x -> x.slice(1, operand, 0, 0), Check.ARGUMENT);
        }
        check.refused(Samples::mixed, "slice(1, 3, 0, 0), an operand of another form",
                x -> x.slice(1, 3, 0, 0), Check.ARGUMENT);
        check.refused(Samples::mixed, "slice(7, 0, 99, 0), no operand before no bits",
                x -> x.slice(7, 0, 99, 0), Check.ARGUMENT);
        check.refused(Samples::mixed, "slice(1, 2, 1, 2)", x -> x.slice(1, 2, 1, 2), Check.ARGUMENT);
        check.refused(Samples::mixed, "slice(1, 2, 5, 6), order before bits in the word",
                x -> x.slice(1, 2, 5, 6), Check.ARGUMENT);
        check.refused(Samples::mixed, "slice(1, 2, -2, -1), order before no bits",
                x -> x.slice(1, 2, -2, -1), Check.ARGUMENT);
        check.refused(Samples::mixed, "slice(1, 2, MIN, MAX)",
                x -> x.slice(1, 2, Integer.MIN_VALUE, Integer.MAX_VALUE), Check.ARGUMENT);
        check.refused(Samples::mixed, "slice(2, 0, 0, 1) of 64 bits",
                x -> x.slice(2, 0, 0, 1), Check.ARGUMENT);
    }

    /** 'IndexOutOfBoundsException: there are no such bits ..'. */
    private static void bitsThatAreNotThere(Check check) {
        int[][] ranges = {{7, 7}, {7, 0}, {0, -1}, {-1, -1}, {4, -1}, {64, 64}, {7, 6},
            {Integer.MAX_VALUE, 0}, {Integer.MAX_VALUE, Integer.MIN_VALUE}, {0, Integer.MIN_VALUE},
            {Integer.MAX_VALUE, Integer.MAX_VALUE}, {Integer.MIN_VALUE, Integer.MIN_VALUE}};
        for (int[] range : ranges) {
            check.refused(Samples::mixed, "slice(1, 2, " + range[0] + ", " + range[1] + ")",
                    x -> x.slice(1, 2, range[0], range[1]), Check.INDEX);
        }
        check.refused(Samples::mixed, "slice(7, 3, 64, 0), no such bit before one in the word",
                x -> x.slice(7, 3, 64, 0), Check.INDEX);
    }

    /** '.. or there would be more than 64'. */
    private static void noMoreThanAWord(Check check) {
        check.refused(Samples::mixed, "slice(2, 0, 0, 0) of 64 bits",
                x -> x.slice(2, 0, 0, 0), Check.INDEX);
        check.refused(Samples::mixed, "slice(7, 3, 5, 5) of 64 bits, room before bits in the word",
                x -> x.slice(7, 3, 5, 5), Check.INDEX);
        Supplier<SliceCoder> nearlyFull = () -> {
            SliceCoder x = new SliceCoder();
            x.fixed(0, 60, -1);
            x.operand(0, 0, 64, false);
            x.slice(0, 0, 8, 8);
            return x;
        };
        check.refused(nearlyFull, "slice(0, 0, 3, 0) of 61 bits", x -> x.slice(0, 0, 3, 0), Check.INDEX);
        check.refused(nearlyFull, "slice(0, 0, 63, 0) of 61 bits", x -> x.slice(0, 0, 63, 0), Check.INDEX);
        check.refused(nearlyFull, "slice(0, 0, 8, 5) of 61 bits", x -> x.slice(0, 0, 8, 5), Check.INDEX);
        check.refused(nearlyFull, "slice(0, 0, 8, 6) of 61 bits", x -> x.slice(0, 0, 8, 6), Check.STATE);
        SliceCoder x = nearlyFull.get();
        check.due("slice(0, 0, 2, 0) of 61 bits", () -> x.slice(0, 0, 2, 0), 64);
    }

    /** 'IllegalStateException: one of them is in the WORD'. */
    private static void bitsInTheWord(Check check) {
        int[][] ranges = {{6, 5}, {6, 6}, {5, 5}, {6, 0}, {5, 0}, {5, 4}};
        for (int[] range : ranges) {
            check.refused(Samples::mixed, "slice(1, 2, " + range[0] + ", " + range[1] + ")",
                    x -> x.slice(1, 2, range[0], range[1]), Check.STATE);
        }
        check.refused(Samples::mixed, "slice(0, 5, 0, 0)", x -> x.slice(0, 5, 0, 0), Check.STATE);
        check.refused(() -> Samples.single(0, 0, 4, false), "the first bit of the word once more",
                x -> x.slice(0, 0, 3, 3), Check.STATE);
        check.refused(() -> Samples.single(0, 0, 4, false), "the last bit of the word once more",
                x -> x.slice(0, 0, 0, 0), Check.STATE);
        SliceCoder x = Samples.mixed();
        x.operand(1, 0, 7, false);
        check.due("the same bits of another operand", () -> x.slice(1, 0, 6, 5), 6);
        check.due("the bits below", () -> x.slice(1, 2, 4, 0), 11);
        check.due("a fixed bit is of no operand", () -> x.slice(1, 0, 1, 0), 13);
    }

    /** The lowest bit and the highest are there, the one below and the one above are not. */
    private static void everyWidth(Check check) {
        for (int n = 1; n <= 64; n++) {
            int width = n;
            String name = " of " + n + " bits";
            Supplier<SliceCoder> made = () -> {
                SliceCoder x = new SliceCoder();
                x.operand(0, 0, width, true);
                return x;
            };
            SliceCoder all = made.get();
            check.due("all" + name, () -> all.slice(0, 0, width - 1, 0), n);
            SliceCoder lowest = made.get();
            check.due("the lowest" + name, () -> lowest.slice(0, 0, 0, 0), 1);
            SliceCoder highest = made.get();
            check.due("the highest" + name, () -> highest.slice(0, 0, width - 1, width - 1), 1);
            check.refused(made, "one above" + name, x -> x.slice(0, 0, width, width), Check.INDEX);
            check.refused(made, "all and one above" + name, x -> x.slice(0, 0, width, 0), Check.INDEX);
            check.refused(made, "one below" + name, x -> x.slice(0, 0, -1, -1), Check.INDEX);
            check.refused(made, "all and one below" + name,
                    x -> x.slice(0, 0, width - 1, -1), Check.INDEX);
            check.refused(made, "high below low" + name,
                    x -> x.slice(0, 0, -1, width - 1), Check.ARGUMENT);
        }
    }

    /** 64 is the last length that is taken, 65 the first that is not, from wherever it is reached. */
    private static void everyLengthAndEveryNext(Check check) {
        for (int length = 0; length <= 64; length++) {
            for (int n = 1; n <= 64; n++) {
                int next = n;
                SliceCoder x = new SliceCoder();
                x.operand(0, 0, 64, false);
                if (length > 0) {
                    x.fixed(0, length, 0);
                }
                boolean room = length + n <= 64;
                check.due(n + " bits of an operand after " + length, () -> x.slice(0, 0, next - 1, 0),
                        room ? length + n : Check.INDEX);
                check.due("bits that are not in the word then", x.count(0, 3), room ? 64 - n : 64);
            }
        }
    }

    /** Of an operand of 5 bits: slices that touch are taken, and those that share a bit are not. */
    private static void everyPairOfSlices(Check check) {
        for (int i = 0; i < 625; i++) {
            int high = i % 5;
            int low = i / 5 % 5;
            int nextHigh = i / 25 % 5;
            int nextLow = i / 125;
            if (high < low || nextHigh < nextLow) {
                continue;
            }
            boolean shared = nextLow <= high && nextHigh >= low;
            int bits = high - low + 1;
            SliceCoder x = new SliceCoder();
            x.operand(0, 0, 5, false);
            x.slice(0, 0, high, low);
            check.due(nextHigh + " to " + nextLow + " after " + high + " to " + low,
                    () -> x.slice(0, 0, nextHigh, nextLow),
                    shared ? Check.STATE : bits + nextHigh - nextLow + 1);
            check.due("bits that are not in the word then", x.count(0, 3),
                    5 - bits - (shared ? 0 : nextHigh - nextLow + 1));
        }
    }
}
