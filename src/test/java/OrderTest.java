import java.util.function.Supplier;

/** 'what is wrong is looked at in the order in which it is told at the call': two things or more are wrong. */
public final class OrderTest {
    public static void main(String[] args) {
        Check check = new Check();
        operand(check);
        fixed(check);
        sliceOfNoOperand(check);
        sliceWithHighBelowLow(check);
        sliceOfNoSuchBits(check);
        sliceWithoutRoom(check);
        encode(check);
        decodeOfNoOperand(check);
        decodeOfOneNotWhole(check);
        countAndMeet(check);
        check.end();
    }

    /** Form 0: operand 0 of 4 bits, of which 3 and 2 are in the word, and a fixed 1 above them. */
    private static SliceCoder begun() {
        SliceCoder x = new SliceCoder();
        x.operand(0, 0, 4, false);
        x.fixed(0, 1, 1);
        x.slice(0, 0, 3, 2);
        return x;
    }

    /** The same with fixed bits up to 64. */
    private static SliceCoder full() {
        SliceCoder x = begun();
        x.fixed(0, 61, 0);
        return x;
    }

    private static void operand(Check check) {
        for (int n : Check.WRONG_BIT_COUNTS) {
            check.refused(OrderTest::begun, "operand(0, 0, " + n + "): n, it is there",
                    x -> x.operand(0, 0, n, true), Check.ARGUMENT);
        }
        for (int k : Check.WRONG_OPERANDS) {
            check.refused(OrderTest::begun, "operand(0, " + k + ", 0): operand, n",
                    x -> x.operand(0, k, 0, true), Check.ARGUMENT);
            check.refused(OrderTest::begun, "operand(8, " + k + ", 65): form, operand, n",
                    x -> x.operand(8, k, 65, true), Check.ARGUMENT);
        }
    }

    private static void fixed(Check check) {
        for (int n : Check.WRONG_BIT_COUNTS) {
            check.refused(OrderTest::full, "fixed(0, " + n + "): n, more than 64",
                    x -> x.fixed(0, n, 0), Check.ARGUMENT);
            check.refused(OrderTest::begun, "fixed(0, " + n + ") of 3 bits: n, more than 64",
                    x -> x.fixed(0, n, 0), Check.ARGUMENT);
            check.refused(OrderTest::full, "fixed(8, " + n + "): form, n",
                    x -> x.fixed(8, n, 0), Check.ARGUMENT);
        }
    }

    private static void sliceOfNoOperand(Check check) {
        for (int k : new int[] {-1, 1, 5, 6, Integer.MIN_VALUE, Integer.MAX_VALUE}) {
            String name = "slice(0, " + k;
            check.refused(OrderTest::begun, name + ", 0, 1): no operand, high below low",
                    x -> x.slice(0, k, 0, 1), Check.ARGUMENT);
            check.refused(OrderTest::begun, name + ", 0, -1): no operand, no such bits",
                    x -> x.slice(0, k, 0, -1), Check.ARGUMENT);
            check.refused(OrderTest::begun, name + ", 64, 64): no operand, no such bits",
                    x -> x.slice(0, k, 64, 64), Check.ARGUMENT);
            check.refused(OrderTest::full, name + ", 0, 0): no operand, more than 64",
                    x -> x.slice(0, k, 0, 0), Check.ARGUMENT);
            check.refused(OrderTest::full, "slice(8, " + k + ", 0, 1): form and all else",
                    x -> x.slice(8, k, 0, 1), Check.ARGUMENT);
        }
        check.refused(OrderTest::full, "slice(1, 0, 3, 2): no operand of this form, of another one in the word",
                x -> x.slice(1, 0, 3, 2), Check.ARGUMENT);
    }

    private static void sliceWithHighBelowLow(Check check) {
        int[][] outside = {{3, 4}, {4, 5}, {-1, 0}, {-2, -1}, {-1, 4}, {63, 64},
            {Integer.MIN_VALUE, Integer.MAX_VALUE}, {Integer.MAX_VALUE - 1, Integer.MAX_VALUE},
            {Integer.MIN_VALUE, Integer.MIN_VALUE + 1}};
        for (int[] bits : outside) {
            String name = "slice(0, 0, " + bits[0] + ", " + bits[1];
            check.refused(OrderTest::begun, name + "): high below low, no such bits",
                    x -> x.slice(0, 0, bits[0], bits[1]), Check.ARGUMENT);
            check.refused(OrderTest::full, name + "): high below low, no such bits, more than 64",
                    x -> x.slice(0, 0, bits[0], bits[1]), Check.ARGUMENT);
        }
        check.refused(OrderTest::full, "slice(0, 0, 0, 1): high below low, more than 64",
                x -> x.slice(0, 0, 0, 1), Check.ARGUMENT);
        check.refused(OrderTest::begun, "slice(0, 0, 2, 3): high below low, in the word",
                x -> x.slice(0, 0, 2, 3), Check.ARGUMENT);
        check.refused(OrderTest::full, "slice(0, 0, 2, 3): high below low, more than 64, in the word",
                x -> x.slice(0, 0, 2, 3), Check.ARGUMENT);
    }

    private static void sliceOfNoSuchBits(Check check) {
        int[][] partly = {{4, 3}, {4, 2}, {4, 0}, {3, -1}, {2, -1}, {4, -1}, {Integer.MAX_VALUE, 2},
            {3, Integer.MIN_VALUE}};
        for (int[] bits : partly) {
            String name = "slice(0, 0, " + bits[0] + ", " + bits[1];
            check.refused(OrderTest::begun, name + "): no such bits, others in the word",
                    x -> x.slice(0, 0, bits[0], bits[1]), Check.INDEX);
            check.refused(OrderTest::full, name + "): no such bits, more than 64, others in the word",
                    x -> x.slice(0, 0, bits[0], bits[1]), Check.INDEX);
        }
    }

    private static void sliceWithoutRoom(Check check) {
        int[][] inTheWord = {{3, 3}, {2, 2}, {3, 2}, {3, 0}, {2, 1}};
        for (int[] bits : inTheWord) {
            String name = "slice(0, 0, " + bits[0] + ", " + bits[1];
            check.refused(OrderTest::full, name + "): more than 64, in the word",
                    x -> x.slice(0, 0, bits[0], bits[1]), Check.INDEX);
            check.refused(OrderTest::begun, name + "): in the word alone",
                    x -> x.slice(0, 0, bits[0], bits[1]), Check.STATE);
        }
        Supplier<SliceCoder> roomForOne = () -> {
            SliceCoder x = begun();
            x.fixed(0, 60, 0);
            return x;
        };
        check.refused(roomForOne, "slice(0, 0, 3, 2), room for one: more than 64, in the word",
                x -> x.slice(0, 0, 3, 2), Check.INDEX);
        check.refused(roomForOne, "slice(0, 0, 3, 3), room for one: in the word alone",
                x -> x.slice(0, 0, 3, 3), Check.STATE);
    }

    private static void encode(Check check) {
        for (long v : new long[] {16, -1, Long.MIN_VALUE, Long.MAX_VALUE}) {
            Supplier<SliceCoder> tooGreat = () -> {
                SliceCoder x = begun();
                x.number(0, v);
                return x;
            };
            check.refused(tooGreat, "encode(0), number 0 being " + v + ": not whole, does not fit",
                    x -> x.encode(0), Check.STATE);
            Supplier<SliceCoder> anotherMissing = () -> {
                SliceCoder x = tooGreat.get();
                x.slice(0, 0, 1, 0);
                x.operand(0, 5, 1, false);
                return x;
            };
            check.refused(anotherMissing, "encode(0), number 0 being " + v + ": operand 5 is missing",
                    x -> x.encode(0), Check.STATE);
        }
    }

    private static void decodeOfNoOperand(Check check) {
        Supplier<SliceCoder> whole = () -> {
            SliceCoder x = begun();
            x.slice(0, 0, 1, 0);
            return x;
        };
        for (int k : new int[] {-1, 1, 5, 6, Integer.MIN_VALUE, Integer.MAX_VALUE}) {
            String name = "decode(0, " + k;
            check.refused(OrderTest::begun, name + ", 4): none, not whole",
                    x -> x.decode(0, k, 4), Check.ARGUMENT);
            check.refused(OrderTest::begun, name + ", 0): none, not whole, not of it",
                    x -> x.decode(0, k, 0), Check.ARGUMENT);
            check.refused(whole, name + ", 0): none, not of it", x -> x.decode(0, k, 0), Check.ARGUMENT);
            check.refused(OrderTest::begun, "decode(8, " + k + ", 0): form and all else",
                    x -> x.decode(8, k, 0), Check.ARGUMENT);
        }
    }

    private static void decodeOfOneNotWhole(Check check) {
        for (long word : new long[] {0, 3, 8, 12, -1, Long.MIN_VALUE}) {
            check.refused(OrderTest::begun, "decode(0, 0, " + word + "): not whole, not of it",
                    x -> x.decode(0, 0, word), Check.STATE);
        }
        Supplier<SliceCoder> anotherMissing = () -> {
            SliceCoder x = begun();
            x.slice(0, 0, 1, 0);
            x.operand(0, 5, 1, false);
            return x;
        };
        check.refused(anotherMissing, "decode(0, 0, 0): operand 5 is missing, not of it",
                x -> x.decode(0, 0, 0), Check.STATE);
    }

    private static void countAndMeet(Check check) {
        check.refused(OrderTest::begun, "count(8, 4): form, what", x -> x.count(8, 4), Check.ARGUMENT);
        check.refused(OrderTest::begun, "count(-1, -1): form, what", x -> x.count(-1, -1), Check.ARGUMENT);
        check.refused(OrderTest::begun, "meet(-1, 8): both", x -> x.meet(-1, 8), Check.ARGUMENT);
    }
}
