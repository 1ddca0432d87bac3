/** Promise 2. */
public final class ClearTest {
    public static void main(String[] args) {
        Check check = new Check();
        everythingOfTheFormGoes(check);
        otherFormsAndNumbersStay(check);
        formCanBeToldAgain(check);
        for (int form : Check.WRONG_FORMS) {
            check.refused(Samples::mixed, "clear(" + form + ")", x -> x.clear(form), Check.ARGUMENT);
        }
        check.end();
    }

    private static void everythingOfTheFormGoes(Check check) {
        SliceCoder x = Samples.mixed();
        for (int form = 0; form < 8; form++) {
            x.clear(form);
        }
        for (int form = 0; form < 8; form++) {
            int f = form;
            for (int what = 0; what < 4; what++) {
                check.due("count(" + f + ", " + what + ") when cleared", x.count(f, what), 0);
            }
            check.due("whole when cleared", x.whole(f), true);
            check.due("encode when cleared", () -> x.encode(f), 0);
            check.due("is(" + f + ", 0) when cleared", x.is(f, 0), true);
            check.due("is(" + f + ", 1) when cleared", x.is(f, 1), false);
            for (int operand = 0; operand < 6; operand++) {
                int k = operand;
                check.due("operand " + k + " when cleared", () -> x.fits(f, k, 0), Check.ARGUMENT);
            }
        }
    }

    private static void otherFormsAndNumbersStay(Check check) {
        SliceCoder x = Samples.mixed();
        x.clear(1);
        x.clear(7);
        check.due("encode(0) after others are cleared", () -> x.encode(0), 98099);
        check.due("count(2, 0) after others are cleared", x.count(2, 0), 64);
        x.clear(0);
        x.operand(0, 5, 4, false);
        x.slice(0, 5, 3, 0);
        check.due("number 5 after clear(0)", () -> x.encode(0), 9);
    }

    private static void formCanBeToldAgain(Check check) {
        SliceCoder x = Samples.mixed();
        x.clear(0);
        x.operand(0, 0, 8, false);
        check.due("sign is told anew", x.fits(0, 0, -5), false);
        check.due("bits are told anew", () -> x.slice(0, 0, 7, 0), 8);
        x.number(0, 200);
        check.due("word of the form told anew", () -> x.encode(0), 200);
        check.due("number in it", () -> x.decode(0, 0, 200), 200);
        x.clear(2);
        check.due("64 bits once more", () -> x.fixed(2, 64, 3), 64);
        check.due("word of these", () -> x.encode(2), 3);
    }
}
