import java.io.IOException;
import java.lang.reflect.Field;
import java.lang.reflect.Method;
import java.lang.reflect.Modifier;
import java.nio.file.Files;
import java.nio.file.Path;
import java.util.ArrayList;
import java.util.List;
import java.util.regex.Matcher;
import java.util.regex.Pattern;
import java.util.stream.Stream;

/** Some rules of LANGUAGE.md that can be seen from the class and its text; FaceTest has rule 1. */
public final class LanguageTest {
    private static final Path MAIN = Path.of("src/main");
    private static final Path FILE = Path.of("src/main/java/SliceCoder.java");

    public static void main(String[] args) throws IOException {
        Check check = new Check();
        String code = withoutComments(Files.readString(FILE));
        check.due("files of the program", files(), List.of(FILE));
        absent(check, code, "a package line", "\\bpackage\\b.*");
        absent(check, code, "rule 2: a lambda or a method reference", "(?m)^(?!\\s*(case|default)\\b).*->.*|.*::.*");
        absent(check, code, "rule 4: a library but what it lists",
                "\\bimport (?!java\\.util\\.(ArrayList|List|Arrays|Iterator|NoSuchElementException);).*");
        absent(check, code, "rule 5: a static initialiser", "\\bstatic\\s*\\{");
        absent(check, code, "rule 6: what it leaves out", "\\b(finally|synchronized|assert|getMessage)\\b.*");
        absent(check, code, "rule 6: a throw of another form", "\\bthrow\\b(?! new (IllegalState|IllegalArgument"
                + "|IndexOutOfBounds|Arithmetic|UnsupportedOperation|NoSuchElement|Runtime)"
                + "Exception\\((\"[^\"]*\")?\\);).*");
        absent(check, code, "rule 13: the world outside",
                "\\bSystem\\.(?!arraycopy\\b).*|\\b(Thread|Runtime|Random|ProcessHandle)\\b.*");
        membersWithinRules(check, SliceCoder.class);
        for (Class<?> inside : SliceCoder.class.getDeclaredClasses()) {
            membersWithinRules(check, inside);
        }
        check.end();
    }

    private static List<Path> files() throws IOException {
        try (Stream<Path> all = Files.walk(MAIN)) {
            return all.filter(Files::isRegularFile).toList();
        }
    }

    private static String withoutComments(String text) {
        return text.replaceAll("(?s)/\\*.*?\\*/", "").replaceAll("//.*", "");
    }

    private static void absent(Check check, String code, String what, String pattern) {
        List<String> all = new ArrayList<>();
        Matcher matcher = Pattern.compile(pattern).matcher(code);
        while (matcher.find()) {
            all.add(matcher.group().strip());
        }
        check.due(what, all, List.of());
    }

    /** Rule 5: static fields are final; rule 11: at most seven parameters and some twenty fields. */
    private static void membersWithinRules(Check check, Class<?> c) {
        int fields = 0;
        for (Field field : c.getDeclaredFields()) {
            boolean isStatic = Modifier.isStatic(field.getModifiers());
            fields += isStatic ? 0 : 1;
            check.due("field " + field.getName() + " is no static state",
                    !isStatic || Modifier.isFinal(field.getModifiers()), true);
        }
        check.due("fields of " + c.getSimpleName() + " are few", fields <= 20, true);
        for (Method method : c.getDeclaredMethods()) {
            check.due("parameters of " + method.getName() + " are few", method.getParameterCount() <= 7, true);
        }
    }
}
