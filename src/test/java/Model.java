import java.math.BigInteger;
import java.util.ArrayList;
import java.util.List;

/** The document once more, in texts and big numbers, so that it errs elsewhere than the class. */
final class Model {
    private static final BigInteger WORDS = BigInteger.ONE.shiftLeft(64);

    /** Each bit is "0", "1", or an operand and a bit of it, as "3:17"; the highest stands first. */
    private final List<List<String>> bits = new ArrayList<>();
    private final int[][] widths = new int[8][6];
    private final boolean[][] signs = new boolean[8][6];
    private final long[] numbers = new long[6];

    Model() {
        for (int form = 0; form < 8; form++) {
            bits.add(new ArrayList<>());
        }
    }

    Object clear(int form) {
        argument(form >= 0 && form <= 7);
        bits.get(form).clear();
        widths[form] = new int[6];
        return "done";
    }

    Object operand(int form, int operand, int n, boolean sign) {
        argument(form >= 0 && form <= 7 && operand >= 0 && operand <= 5 && n >= 1 && n <= 64);
        state(widths[form][operand] == 0);
        widths[form][operand] = n;
        signs[form][operand] = sign;
        return "done";
    }

    Object fixed(int form, int n, long v) {
        argument(form >= 0 && form <= 7 && n >= 1 && n <= 64);
        index(bits.get(form).size() + n <= 64);
        String all = binary(unsigned(v), 64);
        for (char c : all.substring(64 - n).toCharArray()) {
            bits.get(form).add(String.valueOf(c));
        }
        return bits.get(form).size();
    }

    Object slice(int form, int operand, int high, int low) {
        argument(isOperand(form, operand) && high >= low);
        index(low >= 0 && high < widths[form][operand]);
        index(bits.get(form).size() + high - low + 1 <= 64);
        List<String> next = new ArrayList<>();
        for (int bit = high; bit >= low; bit--) {
            state(!bits.get(form).contains(operand + ":" + bit));
            next.add(operand + ":" + bit);
        }
        bits.get(form).addAll(next);
        return bits.get(form).size();
    }

    Object whole(int form) {
        argument(form >= 0 && form <= 7);
        return missing(form) == 0;
    }

    Object number(int k, long v) {
        argument(k >= 0 && k <= 5);
        numbers[k] = v;
        return "done";
    }

    Object fits(int form, int operand, long v) {
        argument(isOperand(form, operand));
        return canBe(form, operand, v);
    }

    Object encode(int form) {
        argument(form >= 0 && form <= 7);
        state(missing(form) == 0);
        for (int k = 0; k < 6; k++) {
            arithmetic(widths[form][k] == 0 || canBe(form, k, numbers[k]));
        }
        StringBuilder word = new StringBuilder("0");
        for (String bit : bits.get(form)) {
            if (bit.contains(":")) {
                String[] parts = bit.split(":");
                BigInteger number = unsigned(numbers[Integer.parseInt(parts[0])]);
                word.append(number.testBit(Integer.parseInt(parts[1])) ? '1' : '0');
            } else {
                word.append(bit);
            }
        }
        return new BigInteger(word.toString(), 2).longValue();
    }

    Object is(int form, long word) {
        argument(form >= 0 && form <= 7);
        return isOf(form, word);
    }

    Object decode(int form, int operand, long word) {
        argument(isOperand(form, operand));
        state(missing(form) == 0);
        arithmetic(isOf(form, word));
        int length = bits.get(form).size();
        String text = binary(unsigned(word), 64).substring(64 - length);
        BigInteger number = BigInteger.ZERO;
        int n = widths[form][operand];
        for (int bit = 0; bit < n; bit++) {
            if (text.charAt(bits.get(form).indexOf(operand + ":" + bit)) == '1') {
                number = number.add(BigInteger.TWO.pow(bit));
            }
        }
        if (signs[form][operand] && number.compareTo(BigInteger.TWO.pow(n - 1)) >= 0) {
            number = number.subtract(BigInteger.TWO.pow(n));
        }
        return number.longValue();
    }

    Object meet(int a, int b) {
        argument(a >= 0 && a <= 7 && b >= 0 && b <= 7);
        String one = pattern(a);
        String other = pattern(b);
        for (int i = 0; i < 64; i++) {
            String pair = "" + one.charAt(i) + other.charAt(i);
            if (pair.equals("01") || pair.equals("10")) {
                return false;
            }
        }
        return true;
    }

    Object count(int form, int what) {
        argument(form >= 0 && form <= 7 && what >= 0 && what <= 3);
        if (what == 0) {
            return bits.get(form).size();
        }
        if (what == 1) {
            return (int) bits.get(form).stream().filter(bit -> !bit.contains(":")).count();
        }
        if (what == 2) {
            return 6 - (int) java.util.Arrays.stream(widths[form]).filter(n -> n == 0).count();
        }
        return missing(form);
    }

    int width(int form, int operand) {
        return widths[form][operand];
    }

    /** An operand of the form with bits that are not in the word, or else the one that is given. */
    int operandWithMissing(int form, int otherwise) {
        for (int k = 0; k < 6; k++) {
            if (lowestMissing(form, k) >= 0) {
                return k;
            }
        }
        return otherwise;
    }

    /** The lowest bit of the operand that is not in the word, or -1. */
    int lowestMissing(int form, int operand) {
        for (int bit = 0; bit < widths[form][operand]; bit++) {
            if (!bits.get(form).contains(operand + ":" + bit)) {
                return bit;
            }
        }
        return -1;
    }

    /** A word that is of the form, its bits of operands taken from v. */
    long wordNear(int form, long v) {
        String pattern = pattern(form);
        String free = binary(unsigned(v), 64);
        StringBuilder word = new StringBuilder();
        for (int i = 0; i < 64; i++) {
            word.append(pattern.charAt(i) == 'x' ? free.charAt(i) : pattern.charAt(i));
        }
        return new BigInteger(word.toString(), 2).longValue();
    }

    private int missing(int form) {
        int found = 0;
        for (int k = 0; k < 6; k++) {
            for (int bit = 0; bit < widths[form][k]; bit++) {
                found += bits.get(form).contains(k + ":" + bit) ? 0 : 1;
            }
        }
        return found;
    }

    private boolean isOperand(int form, int operand) {
        return form >= 0 && form <= 7 && operand >= 0 && operand <= 5 && widths[form][operand] != 0;
    }

    private boolean canBe(int form, int operand, long v) {
        int n = widths[form][operand];
        BigInteger exact = BigInteger.valueOf(v);
        if (n == 64) {
            return true;
        }
        return signs[form][operand] ? exact.bitLength() < n : exact.signum() >= 0 && exact.bitLength() <= n;
    }

    private boolean isOf(int form, long word) {
        return wordNear(form, word) == word;
    }

    private String pattern(int form) {
        StringBuilder all = new StringBuilder();
        for (String bit : bits.get(form)) {
            all.append(bit.contains(":") ? "x" : bit);
        }
        return "0".repeat(64 - all.length()) + all;
    }

    private static BigInteger unsigned(long v) {
        return BigInteger.valueOf(v).mod(WORDS);
    }

    private static String binary(BigInteger v, int n) {
        String digits = v.toString(2);
        return "0".repeat(n - digits.length()) + digits;
    }

    private static void argument(boolean right) {
        if (!right) {
            throw new IllegalArgumentException();
        }
    }

    private static void index(boolean right) {
        if (!right) {
            throw new IndexOutOfBoundsException();
        }
    }

    private static void state(boolean right) {
        if (!right) {
            throw new IllegalStateException();
        }
    }

    private static void arithmetic(boolean right) {
        if (!right) {
            throw new ArithmeticException();
        }
    }
}
