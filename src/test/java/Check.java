import java.util.concurrent.Callable;
import java.util.function.Consumer;
import java.util.function.Supplier;

/** Compares answers with those that are due, prints each that differs, and ends the test. */
final class Check {
    static final int[] WRONG_FORMS = {-1, 8, Integer.MIN_VALUE, Integer.MAX_VALUE};
    static final int[] WRONG_OPERANDS = {-1, 6, Integer.MIN_VALUE, Integer.MAX_VALUE};
    static final int[] WRONG_BIT_COUNTS = {0, -1, 65, Integer.MIN_VALUE, Integer.MAX_VALUE};

    static final String ARGUMENT = "throws.IllegalArgumentException";
    static final String STATE = "throws.IllegalStateException";
    static final String INDEX = "throws.IndexOutOfBoundsException";
    static final String ARITHMETIC = "throws.ArithmeticException";

    private int answers;
    private int wrong;

    /** What a call answers, as a text; an exception by its very class. */
    static String answer(Callable<?> call) {
        try {
            return String.valueOf(call.call());
        } catch (Exception e) {
            return "throws." + e.getClass().getSimpleName();
        }
    }

    void due(String what, Object got, Object due) {
        answers++;
        if (!String.valueOf(got).equals(String.valueOf(due))) {
            wrong++;
            System.out.println(what + " answered " + got + ", due is " + due);
        }
    }

    void due(String what, Callable<?> call, Object due) {
        due(what, answer(call), due);
    }

    /** The call throws, and leaves an object that can't be told from one without the call. */
    void refused(Supplier<SliceCoder> made, String what, Consumer<SliceCoder> call, String due) {
        SliceCoder tried = made.get();
        due(what, () -> { call.accept(tried); return "nothing thrown"; }, due);
        due("what is there after " + what, Snapshot.of(tried), Snapshot.of(made.get()));
    }

    void end() {
        System.out.println(answers + " answers looked at, " + wrong + " not as due");
        if (wrong != 0 || answers == 0) {
            System.exit(1);
        }
    }
}
