/** Promise 1. */
public final class NewObjectTest {
    public static void main(String[] args) {
        Check check = new Check();
        SliceCoder x = new SliceCoder();
        for (int form = 0; form < 8; form++) {
            formIsEmpty(check, x, form);
        }
        nothingIsThereToTakeApart(check);
        roomIsThereForAll(check);
        numbersAreZero(check);
        objectsAreApart(check);
        check.end();
    }

    /** 'FORMS without OPERANDS and bits'. */
    private static void formIsEmpty(Check check, SliceCoder x, int form) {
        String name = "form " + form + " of a new object: ";
        for (int what = 0; what < 4; what++) {
            check.due(name + "count " + what, x.count(form, what), 0);
        }
        check.due(name + "whole", x.whole(form), true);
        check.due(name + "encode", x.encode(form), 0);
        check.due(name + "is 0", x.is(form, 0), true);
        check.due(name + "is 1", x.is(form, 1), false);
        check.due(name + "is -1", x.is(form, -1), false);
        for (int operand = 0; operand < 6; operand++) {
            int k = operand;
            check.due(name + "operand " + k, () -> x.fits(form, k, 0), Check.ARGUMENT);
        }
        for (int other = 0; other < 8; other++) {
            check.due(name + "meets " + other, x.meet(form, other), true);
        }
    }

    /** 'without OPERANDS': what needs one is refused. */
    private static void nothingIsThereToTakeApart(Check check) {
        for (int i = 0; i < 48; i++) {
            int form = i / 6;
            int operand = i % 6;
            String name = "(" + form + ", " + operand;
            check.refused(SliceCoder::new, "slice" + name + ", 0, 0) of a new object",
                    x -> x.slice(form, operand, 0, 0), Check.ARGUMENT);
            check.refused(SliceCoder::new, "decode" + name + ", 0) of a new object",
                    x -> x.decode(form, operand, 0), Check.ARGUMENT);
        }
    }

    /** 'without .. bits': each form has room for 64, and for six operands of 64. */
    private static void roomIsThereForAll(Check check) {
        SliceCoder x = new SliceCoder();
        for (int form = 0; form < 8; form++) {
            int f = form;
            check.due("64 bits in form " + f + " of a new object", () -> x.fixed(f, 64, f), 64);
            for (int k = 0; k < 6; k++) {
                x.operand(f, k, 64, true);
            }
            check.due("bits of six operands of form " + f, x.count(f, 3), 384);
        }
    }

    /** '0 at first', as promise 7 has it. */
    private static void numbersAreZero(Check check) {
        for (int k = 0; k < 6; k++) {
            check.due("number " + k + " at first", Samples.single(0, k, 64, true).encode(0), 0);
        }
    }

    private static void objectsAreApart(Check check) {
        SliceCoder first = Samples.mixed();
        SliceCoder second = new SliceCoder();
        check.due("bits of another object", second.count(0, 0), 0);
        second.number(0, 77);
        second.clear(0);
        check.due("word of the first object", first.encode(0), 98099);
    }
}
