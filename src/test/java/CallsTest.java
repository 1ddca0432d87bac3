import java.util.ArrayList;
import java.util.LinkedHashMap;
import java.util.List;
import java.util.Map;
import java.util.function.Consumer;
import java.util.function.Function;

/** 'An object is used for at most 512 calls after it has been made': the 512th is answered like the first. */
public final class CallsTest {
    private static final int CALLS = 512;
    private static final int CALLS_OF_SAMPLE = 17;

    public static void main(String[] args) {
        Check check = new Check();
        Map<String, Function<SliceCoder, Object>> last = lastCalls();
        for (List<Consumer<SliceCoder>> between : callsBetween()) {
            last.forEach((name, call) -> {
                SliceCoder used = Samples.mixed();
                useUp(used, between);
                String due = Check.answer(() -> call.apply(Samples.mixed()));
                check.due("as the 512th call, " + name, () -> call.apply(used), due);
            });
        }
        check.end();
    }

    /** All calls but the last: what stands between makes no difference at the end. */
    private static void useUp(SliceCoder x, List<Consumer<SliceCoder>> between) {
        int calls = CALLS_OF_SAMPLE;
        while (calls + between.size() < CALLS) {
            for (Consumer<SliceCoder> call : between) {
                Check.answerOf(call, x);
                calls++;
            }
        }
        while (calls < CALLS - 1) {
            x.count(0, 0);
            calls++;
        }
    }

    private static List<List<Consumer<SliceCoder>>> callsBetween() {
        List<List<Consumer<SliceCoder>>> all = new ArrayList<>();
        all.add(List.of(x -> x.clear(3)));
        all.add(List.of(x -> x.operand(3, 0, 64, true), x -> x.clear(3)));
        all.add(List.of(x -> x.fixed(3, 64, -1), x -> x.clear(3)));
        all.add(List.of(x -> x.operand(3, 0, 64, true), x -> x.slice(3, 0, 63, 0), x -> x.clear(3)));
        all.add(List.of(x -> x.whole(0)));
        all.add(List.of(x -> x.number(0, 77), x -> x.number(0, -5)));
        all.add(List.of(x -> x.fits(0, 0, 1)));
        all.add(List.of(x -> x.encode(0)));
        all.add(List.of(x -> x.is(0, 98099)));
        all.add(List.of(x -> x.decode(0, 0, 98099)));
        all.add(List.of(x -> x.meet(0, 1)));
        all.add(List.of(x -> x.count(0, 3)));
        all.add(List.of(x -> x.clear(8)));
        all.add(List.of(x -> x.operand(0, 0, 8, true), x -> x.operand(0, 1, 65, true)));
        all.add(List.of(x -> x.fixed(2, 1, 1), x -> x.fixed(0, 64, 1)));
        all.add(List.of(x -> x.slice(0, 0, 0, 0), x -> x.slice(1, 2, 7, 0), x -> x.slice(2, 0, 0, 0)));
        all.add(List.of(x -> x.encode(1), x -> x.decode(1, 2, 4), x -> x.decode(0, 0, 0)));
        return all;
    }

    private static Map<String, Function<SliceCoder, Object>> lastCalls() {
        Map<String, Function<SliceCoder, Object>> all = new LinkedHashMap<>();
        all.put("clear", x -> { x.clear(0); return "done"; });
        all.put("operand", x -> { x.operand(1, 0, 64, true); return "done"; });
        all.put("operand that is there", x -> { x.operand(1, 2, 64, true); return "done"; });
        all.put("fixed", x -> x.fixed(0, 47, 1));
        all.put("fixed in a form told anew", x -> x.fixed(3, 64, 1));
        all.put("fixed without room", x -> x.fixed(0, 48, 1));
        all.put("slice", x -> x.slice(1, 2, 4, 0));
        all.put("slice of a bit in the word", x -> x.slice(1, 2, 5, 0));
        all.put("whole", x -> x.whole(0));
        all.put("whole, not", x -> x.whole(1));
        all.put("number", x -> { x.number(5, 3); return "done"; });
        all.put("fits", x -> x.fits(0, 0, -128));
        all.put("fits, not", x -> x.fits(0, 0, 128));
        all.put("encode", x -> x.encode(0));
        all.put("encode of 64 bits", x -> x.encode(7));
        all.put("encode of an empty form", x -> x.encode(3));
        all.put("is", x -> x.is(0, 98099));
        all.put("is, not", x -> x.is(3, 1));
        all.put("decode", x -> x.decode(0, 0, 98099));
        all.put("decode of another word", x -> x.decode(0, 0, 1));
        all.put("meet", x -> x.meet(0, 7));
        all.put("meet, not", x -> x.meet(0, 1));
        all.put("count", x -> x.count(0, 0));
        all.put("count of missing bits", x -> x.count(1, 3));
        return all;
    }
}
