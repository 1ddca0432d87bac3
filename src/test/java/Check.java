import java.util.concurrent.Callable;
import java.util.function.Consumer;
import java.util.function.Supplier;

/** Compares answers with those that are due, prints each that differs, and ends the test. */
final class Check {
    static final int[] WRONG_FORMS = {-1, 8, Integer.MIN_VALUE, Integer.MAX_VALUE};
    static final int[] WRONG_OPERANDS = {-1, 6, Integer.MIN_VALUE, Integer.MAX_VALUE};
    static final int[] WRONG_BIT_COUNTS = {0, -1, 65, Integer.MIN_VALUE, Integer.MAX_VALUE};

    static final String ARGUMENT = "throws.IllegalArgumentException";
    static final String STATE = "throws.IllegalStateException";
    static final String INDEX = "throws.IndexOutOfBoundsException";
    static final String ARITHMETIC = "throws.ArithmeticException";

    private int answers;
    private int wrong;

    /** What a call answers, as a text; an exception by its very class. */
    static String answer(Callable<?> call) {
        try {
            return String.valueOf(call.call());
        } catch (Exception e) {
            return "throws." + e.getClass().getSimpleName();
        }
    }

    void due(String what, Object got, Object due) {
        answers++;
        if (!String.valueOf(got).equals(String.valueOf(due))) {
            wrong++;
            System.out.println(what + " answered " + got + ", due is " + due);
        }
    }

    void due(String what, Callable<?> call, Object due) {
        due(what, answer(call), due);
    }

    /** The call throws, and every answer after it is as if it had not been made. */
    void refused(Supplier<SliceCoder> made, String what, Consumer<SliceCoder> call, String due) {
        due(what, answerOf(call, made.get()), due);
        leavesAll(made, what, call);
    }

    /** What the object shows after the call is what it shows without it. */
    void leavesAll(Supplier<SliceCoder> made, String what, Consumer<SliceCoder> call) {
        Supplier<SliceCoder> after = () -> {
            SliceCoder x = made.get();
            answerOf(call, x);
            return x;
        };
        String[] got = Snapshot.of(after).split("\n");
        String[] due = Snapshot.of(made).split("\n");
        for (int i = 0; i < due.length; i++) {
            due("what is there after " + what, got[i], due[i]);
        }
    }

    static String answerOf(Consumer<SliceCoder> call, SliceCoder x) {
        return answer(() -> {
            call.accept(x);
            return "nothing thrown";
        });
    }

    void end() {
        System.out.println(answers + " answers looked at, " + wrong + " not as due");
        if (wrong != 0 || answers == 0) {
            System.exit(1);
        }
    }
}
