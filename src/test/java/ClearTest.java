/** Promise 2. */
public final class ClearTest {
    public static void main(String[] args) {
        Check check = new Check();
        everythingOfTheFormGoes(check);
        otherFormsAndNumbersStay(check);
        formCanBeToldAgain(check);
        eachFormIsClearedAlone(check);
        emptyFormStaysEmpty(check);
        fullWordHasRoomAgain(check);
        for (int form : Check.WRONG_FORMS) {
            check.refused(Samples::mixed, "clear(" + form + ")", x -> x.clear(form), Check.ARGUMENT);
        }
        check.end();
    }

    /** 'A FORM has no OPERANDS and bits': whole, not whole, full or empty before. */
    private static void everythingOfTheFormGoes(Check check) {
        SliceCoder x = Samples.mixed();
        for (int form = 0; form < 8; form++) {
            x.clear(form);
        }
        for (int form = 0; form < 8; form++) {
            int f = form;
            for (int what = 0; what < 4; what++) {
                check.due("count(" + f + ", " + what + ") when cleared", x.count(f, what), 0);
            }
            check.due("whole when cleared", x.whole(f), true);
            check.due("encode when cleared", () -> x.encode(f), 0);
            check.due("is(" + f + ", 0) when cleared", x.is(f, 0), true);
            check.due("is(" + f + ", 1) when cleared", x.is(f, 1), false);
            for (int operand = 0; operand < 6; operand++) {
                int k = operand;
                check.due("operand " + k + " when cleared", () -> x.fits(f, k, 0), Check.ARGUMENT);
            }
        }
    }

    private static void otherFormsAndNumbersStay(Check check) {
        SliceCoder x = Samples.mixed();
        x.clear(1);
        x.clear(7);
        check.due("encode(0) after others are cleared", () -> x.encode(0), 98099);
        check.due("count(2, 0) after others are cleared", x.count(2, 0), 64);
        x.clear(0);
        x.operand(0, 5, 4, false);
        x.slice(0, 5, 3, 0);
        check.due("number 5 after clear(0)", () -> x.encode(0), 9);
    }

    private static void formCanBeToldAgain(Check check) {
        SliceCoder x = Samples.mixed();
        x.clear(0);
        x.operand(0, 0, 8, false);
        check.due("sign is told anew", x.fits(0, 0, -5), false);
        check.due("bits are told anew", () -> x.slice(0, 0, 7, 0), 8);
        x.number(0, 200);
        check.due("word of the form told anew", () -> x.encode(0), 200);
        check.due("number in it", () -> x.decode(0, 0, 200), 200);
        x.clear(2);
        check.due("64 bits once more", () -> x.fixed(2, 64, 3), 64);
        check.due("word of these", () -> x.encode(2), 3);
    }

    /** The first, the last, and each between: the seven others are as they were. */
    private static void eachFormIsClearedAlone(Check check) {
        for (int cleared = 0; cleared < 8; cleared++) {
            SliceCoder x = Samples.alike(true);
            x.number(0, 3);
            x.clear(cleared);
            for (int form = 0; form < 8; form++) {
                int f = form;
                String name = "form " + form + " when " + cleared + " is cleared: ";
                check.due(name + "bits", x.count(form, 0), form == cleared ? 0 : 2);
                check.due(name + "operands", x.count(form, 2), form == cleared ? 0 : 1);
                check.due(name + "word", () -> x.encode(f), form == cleared ? 0 : 3);
            }
        }
    }

    /** Of an empty form it is no mistake, and changes nothing. */
    private static void emptyFormStaysEmpty(Check check) {
        for (int form : new int[] {0, 7}) {
            check.due("clear(" + form + ") of a new object",
                    Check.answerOf(x -> x.clear(form), new SliceCoder()), "nothing thrown");
            check.leavesAll(SliceCoder::new, "clear(" + form + ") of a new object", x -> x.clear(form));
        }
        check.leavesAll(Samples::mixed, "clear of an empty form", x -> x.clear(3));
        check.leavesAll(() -> {
            SliceCoder x = Samples.mixed();
            x.clear(0);
            return x;
        }, "clear once more", x -> x.clear(0));
    }

    /** Bits of operands and fixed ones, 64 of each: all can be told again, and none is in the word. */
    private static void fullWordHasRoomAgain(Check check) {
        SliceCoder x = new SliceCoder();
        for (int i = 0; i < 3; i++) {
            x.operand(7, 5, 64, true);
            check.due("64 bits of an operand", () -> x.slice(7, 5, 63, 0), 64);
            x.clear(7);
            check.due("64 fixed bits", () -> x.fixed(7, 64, -1), 64);
            check.due("operands then", x.count(7, 2), 0);
            x.clear(7);
            check.due("fixed bits then", x.count(7, 1), 0);
        }
        x.operand(7, 5, 64, false);
        check.due("the operand told anew is not in the word", x.count(7, 3), 64);
        check.due("nor is the form whole", x.whole(7), false);
    }
}
