/** Promise 7. */
public final class NumberTest {
    public static void main(String[] args) {
        Check check = new Check();
        eachNumberIsItsOwn(check);
        numbersAreOfAllForms(check);
        anyNumberIsTaken(check);
        for (int k : Check.WRONG_OPERANDS) {
            check.refused(Samples::mixed, "number(" + k + ", 1)", x -> x.number(k, 1), Check.ARGUMENT);
        }
        check.end();
    }

    private static void eachNumberIsItsOwn(Check check) {
        SliceCoder x = new SliceCoder();
        for (int k = 0; k < 6; k++) {
            x.operand(0, k, 4, false);
            x.slice(0, k, 3, 0);
        }
        check.due("numbers at first", () -> x.encode(0), 0);
        for (int k = 0; k < 6; k++) {
            x.number(k, k + 1);
        }
        check.due("numbers 1 to 6", () -> x.encode(0), 0x123456);
        x.number(0, 9);
        x.number(5, 15);
        check.due("two of them anew", () -> x.encode(0), 0x92345F);
        check.due("and they stay", () -> x.encode(0), 0x92345F);
    }

    private static void numbersAreOfAllForms(Check check) {
        SliceCoder x = new SliceCoder();
        x.number(2, 6);
        for (int form = 0; form < 8; form++) {
            int f = form;
            x.operand(f, 2, 4, false);
            x.slice(f, 2, 3, 0);
            check.due("number 2 in form " + f, () -> x.encode(f), 6);
        }
    }

    private static void anyNumberIsTaken(Check check) {
        SliceCoder x = Samples.single(0, 3, 64, true);
        for (long v : new long[] {Long.MIN_VALUE, -1, 0, 1, Long.MAX_VALUE}) {
            check.due("number(3, " + v + ")", () -> { x.number(3, v); return "taken"; }, "taken");
            check.due("word of " + v, () -> x.encode(0), v);
        }
    }
}
