import java.util.function.Supplier;

/** Promise 11. */
public final class DecodeTest {
    public static void main(String[] args) {
        Check check = new Check();
        slicesComeTogether(check);
        signs(check);
        wordsOfAllBits(check);
        eachOperandHasItsSign(check);
        encodedIsDecoded(check);
        wrongArguments(check);
        notWhole(check);
        wordsOfAnotherForm(check);
        eachBitThatIsWrong(check);
        oneBitMissing(check);
        numbersDoNotCount(check);
        check.end();
    }

    private static void slicesComeTogether(Check check) {
        SliceCoder x = Samples.mixed();
        check.due("a of 101 11111 1001 10 011", () -> x.decode(0, 0, 0b10111111100110011), -5);
        check.due("b of it", () -> x.decode(0, 5, 0b10111111100110011), 9);
        check.due("a of 101 01111 0000 10 111", () -> x.decode(0, 0, 0b10101111000010111), 127);
        check.due("b of it", () -> x.decode(0, 5, 0b10101111000010111), 0);
        check.due("a of 101 10000 1111 10 000", () -> x.decode(0, 0, 0b10110000111110000), -128);
        check.due("b of it", () -> x.decode(0, 5, 0b10110000111110000), 15);
        check.due("number 0 is as it was", () -> x.encode(0), 98099);
    }

    private static void signs(Check check) {
        for (int n = 1; n <= 63; n++) {
            int m = n;
            SliceCoder signed = Samples.single(0, 0, n, true);
            SliceCoder unsigned = Samples.single(0, 0, n, false);
            long most = -1L >>> (64 - n);
            long top = 1L << (n - 1);
            check.due("all ones of " + n + " bits with sign", () -> signed.decode(0, 0, most), -1);
            check.due("all ones of " + n + " bits", () -> unsigned.decode(0, 0, most), most);
            check.due("the highest of " + n + " with sign", () -> signed.decode(0, 0, top), -1L << (m - 1));
            check.due("the highest of " + n, () -> unsigned.decode(0, 0, top), top);
            check.due("below it with sign", () -> signed.decode(0, 0, top - 1), top - 1);
        }
    }

    private static void wordsOfAllBits(Check check) {
        for (boolean sign : new boolean[] {false, true}) {
            SliceCoder x = Samples.single(7, 5, 64, sign);
            for (long word : new long[] {0, 1, -1, Long.MIN_VALUE, Long.MAX_VALUE}) {
                check.due("64 bits, " + word, () -> x.decode(7, 5, word), word);
            }
        }
        SliceCoder x = new SliceCoder();
        x.operand(0, 0, 32, true);
        x.operand(0, 1, 32, false);
        x.slice(0, 0, 31, 0);
        x.slice(0, 1, 31, 0);
        check.due("the upper half with sign", () -> x.decode(0, 0, -1), -1);
        check.due("the lower half without", () -> x.decode(0, 1, -1), 0xFFFFFFFFL);
    }

    private static void eachOperandHasItsSign(Check check) {
        SliceCoder each = new SliceCoder();
        for (int k = 0; k < 6; k++) {
            each.operand(0, k, k + 1, true);
            each.slice(0, k, k, 0);
        }
        for (int k = 0; k < 6; k++) {
            int operand = k;
            long least = 1L << k;
            check.due("-1 of operand " + k, () -> each.decode(0, operand, (1L << 21) - 1), -1);
            check.due("the least of operand " + k,
                    () -> each.decode(0, operand, least << lowerBits(operand)), -least);
        }
    }

    /** How many bits stand below operand k where operands 0 to 5 have 1 to 6 bits. */
    private static int lowerBits(int k) {
        int below = 0;
        for (int later = k + 1; later < 6; later++) {
            below += later + 1;
        }
        return below;
    }

    private static void encodedIsDecoded(Check check) {
        SliceCoder x = Samples.mixed();
        for (int v = -128; v < 128; v += 5) {
            int b = v & 15;
            x.number(0, v);
            x.number(5, b);
            long word = x.encode(0);
            check.due("a is " + v, () -> x.decode(0, 0, word), v);
            check.due("b is " + b, () -> x.decode(0, 5, word), b);
        }
    }

    /** 'IllegalArgumentException: form, it is none'. */
    private static void wrongArguments(Check check) {
        for (int form : Check.WRONG_FORMS) {
            check.refused(Samples::mixed, "decode(" + form + ", 0, 98099)",
                    x -> x.decode(form, 0, 98099), Check.ARGUMENT);
        }
        for (int operand : Check.WRONG_OPERANDS) {
            check.refused(Samples::mixed, "decode(0, " + operand + ", 98099)",
                    x -> x.decode(0, operand, 98099), Check.ARGUMENT);
        }
        check.refused(Samples::mixed, "decode(0, 1, 98099), no such operand",
                x -> x.decode(0, 1, 98099), Check.ARGUMENT);
        check.refused(Samples::mixed, "decode(0, 1, 0), no such operand before the word",
                x -> x.decode(0, 1, 0), Check.ARGUMENT);
        check.refused(Samples::mixed, "decode(1, 0, 4), no such operand before not whole",
                x -> x.decode(1, 0, 4), Check.ARGUMENT);
        check.refused(Samples::mixed, "decode(3, 0, 0), a form of nothing",
                x -> x.decode(3, 0, 0), Check.ARGUMENT);
    }

    /** 'IllegalStateException: it is not WHOLE'. */
    private static void notWhole(Check check) {
        check.refused(Samples::mixed, "decode(1, 2, 4)", x -> x.decode(1, 2, 4), Check.STATE);
        check.refused(Samples::mixed, "decode(1, 2, 0), not whole before the word",
                x -> x.decode(1, 2, 0), Check.STATE);
        check.refused(Samples::mixed, "decode(2, 0, 0x16A5A), not whole",
                x -> x.decode(2, 0, 0x16A5A), Check.STATE);
    }

    /** 'ArithmeticException: the WORD is not of it'. */
    private static void wordsOfAnotherForm(Check check) {
        for (long word : new long[] {0, -1, 98099 ^ 8, 98099 ^ (1 << 14), 98099 + (1 << 17),
            98099 + Long.MIN_VALUE}) {
            check.refused(Samples::mixed, "decode(0, 0, " + word + ")",
                    x -> x.decode(0, 0, word), Check.ARITHMETIC);
        }
    }

    /** 101 aaaaa bbbb 10 aaa: a wrong bit in each fixed place and in each beyond the length. */
    private static void eachBitThatIsWrong(Check check) {
        for (int place = 0; place < 64; place++) {
            long word = 98099 ^ 1L << place;
            boolean free = place < 14 && place != 3 && place != 4;
            String due = free ? "nothing thrown" : Check.ARITHMETIC;
            for (int k : new int[] {0, 5}) {
                check.due("98099 with bit " + place + " changed, operand " + k,
                        Check.answerOf(x -> x.decode(0, k, word), Samples.mixed()), due);
                check.leavesAll(Samples::mixed, "decode(0, " + k + ", " + word + ")",
                        x -> x.decode(0, k, word));
            }
        }
    }

    /** All bits but one are in the word, of the operand that is asked for or of another. */
    private static void oneBitMissing(Check check) {
        Supplier<SliceCoder> made = () -> {
            SliceCoder x = new SliceCoder();
            x.operand(0, 0, 2, false);
            x.operand(0, 1, 2, false);
            x.slice(0, 0, 1, 0);
            x.slice(0, 1, 1, 1);
            return x;
        };
        check.refused(made, "decode of the one that lacks a bit", x -> x.decode(0, 1, 7), Check.STATE);
        check.refused(made, "decode of the other", x -> x.decode(0, 0, 7), Check.STATE);
        SliceCoder x = made.get();
        x.slice(0, 1, 0, 0);
        check.due("the one when it is whole", () -> x.decode(0, 1, 0b1001), 1);
        check.due("the other then", () -> x.decode(0, 0, 0b1001), 2);
    }

    /** What encode() would take makes no difference, even where it does not fit. */
    private static void numbersDoNotCount(Check check) {
        SliceCoder x = Samples.mixed();
        x.number(0, Long.MAX_VALUE);
        x.number(5, Long.MIN_VALUE);
        check.due("a", () -> x.decode(0, 0, 98099), -5);
        check.due("b", () -> x.decode(0, 5, 98099), 9);
        check.due("and it takes none of them", () -> x.encode(0), Check.ARITHMETIC);
    }
}
