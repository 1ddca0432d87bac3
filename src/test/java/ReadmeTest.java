import java.io.IOException;
import java.nio.file.Files;
import java.nio.file.Path;
import java.util.ArrayList;
import java.util.List;

/** The example of README.md answers what it says, and is the one that is run here. */
public final class ReadmeTest {
    private static final Path README = Path.of("README.md");
    private static final Path THIS = Path.of("src/test/java/ReadmeTest.java");

    public static void main(String[] args) throws IOException {
        Check check = new Check();
        example(check);
        check.due("lines of the example", exampleLines(), ownLines());
        check.due("answers in its comments", commentsWithAnswers(),
                List.of("long word = x.encode(0); 98099", "x.decode(0, 0, word); -5", "x.decode(0, 1, word); 9",
                        "x.meet(0, 1); true"));
        check.end();
    }

    private static void example(Check check) {
        // the example begins
        SliceCoder x = new SliceCoder();
        x.operand(0, 0, 8, true);
        x.operand(0, 1, 4, false);
        x.fixed(0, 3, 5);
        x.slice(0, 0, 7, 3);
        x.slice(0, 1, 3, 0);
        x.fixed(0, 2, 2);
        x.slice(0, 0, 2, 0);
        x.number(0, -5);
        x.number(1, 9);
        long word = x.encode(0);
        x.decode(0, 0, word);
        x.decode(0, 1, word);
        x.fixed(1, 17, 98099);
        x.meet(0, 1);
        // the example ends
        check.due("bits in all", x.count(0, 0), 17);
        check.due("the word", word, 98099);
        check.due("operand 0 of it", x.decode(0, 0, word), -5);
        check.due("operand 1 of it", x.decode(0, 1, word), 9);
        check.due("form 1 is this word", x.is(1, word), true);
        check.due("the forms meet", x.meet(0, 1), true);
    }

    private static List<String> exampleLines() throws IOException {
        List<String> all = new ArrayList<>();
        for (String line : between(README, "```java", "```")) {
            all.add(line.split("//")[0].strip());
        }
        return all;
    }

    private static List<String> ownLines() throws IOException {
        List<String> all = new ArrayList<>();
        for (String line : between(THIS, "// the example begins", "// the example ends")) {
            all.add(line.strip());
        }
        return all;
    }

    /** A comment that is a number or a truth value alone is what the line answers. */
    private static List<String> commentsWithAnswers() throws IOException {
        List<String> all = new ArrayList<>();
        for (String line : between(README, "```java", "```")) {
            String[] parts = line.split("//");
            if (parts.length == 2 && parts[1].strip().matches("-?[0-9]+|true|false")) {
                all.add(parts[0].strip() + " " + parts[1].strip());
            }
        }
        return all;
    }

    private static List<String> between(Path file, String first, String last) throws IOException {
        List<String> all = new ArrayList<>();
        boolean inside = false;
        for (String line : Files.readAllLines(file)) {
            boolean ends = inside && line.strip().equals(last);
            if (ends) {
                return all;
            }
            if (inside && !line.isBlank()) {
                all.add(line);
            }
            inside |= line.strip().equals(first);
        }
        return all;
    }
}
