import java.lang.reflect.Constructor;
import java.lang.reflect.Field;
import java.lang.reflect.Method;
import java.lang.reflect.Modifier;
import java.util.Arrays;
import java.util.Set;
import java.util.TreeSet;

/** The public face: what the document has, and nothing beside it. */
public final class FaceTest {
    private static final String[] FACE = {
        "void clear(int) IllegalArgumentException",
        "void operand(int, int, int, boolean) IllegalArgumentException, IllegalStateException",
        "int fixed(int, int, long) IllegalArgumentException, IndexOutOfBoundsException",
        "int slice(int, int, int, int) IllegalArgumentException, IndexOutOfBoundsException, "
            + "IllegalStateException",
        "boolean whole(int) IllegalArgumentException",
        "void number(int, long) IllegalArgumentException",
        "boolean fits(int, int, long) IllegalArgumentException",
        "long encode(int) IllegalArgumentException, IllegalStateException, ArithmeticException",
        "boolean is(int, long) IllegalArgumentException",
        "long decode(int, int, long) IllegalArgumentException, IllegalStateException, "
            + "ArithmeticException",
        "boolean meet(int, int) IllegalArgumentException",
        "int count(int, int) IllegalArgumentException"};

    public static void main(String[] args) {
        Check check = new Check();
        Class<?> c = SliceCoder.class;
        check.due("the class", Modifier.toString(c.getModifiers()), "public final");
        check.due("its constructors", constructors(c), "[public()]");
        check.due("its methods", methods(c), new TreeSet<>(Arrays.asList(FACE)));
        check.due("methods neither public nor private", hidden(c), "[]");
        for (Field field : c.getDeclaredFields()) {
            check.due("field " + field.getName() + " is private",
                    Modifier.isPrivate(field.getModifiers()), true);
        }
        for (Class<?> inside : c.getDeclaredClasses()) {
            int modifiers = inside.getModifiers();
            check.due("class " + inside.getSimpleName() + " inside is static", Modifier.isStatic(modifiers), true);
            check.due("class " + inside.getSimpleName() + " inside is hidden",
                    Modifier.isPublic(modifiers) || Modifier.isProtected(modifiers), false);
        }
        check.due("private methods named as public ones", sharedNames(c), "[]");
        check.end();
    }

    private static Set<String> constructors(Class<?> c) {
        Set<String> all = new TreeSet<>();
        for (Constructor<?> k : c.getDeclaredConstructors()) {
            all.add(Modifier.toString(k.getModifiers()) + names(k.getParameterTypes(), "(", ")"));
        }
        return all;
    }

    private static Set<String> methods(Class<?> c) {
        Set<String> all = new TreeSet<>();
        for (Method m : c.getDeclaredMethods()) {
            if (Modifier.isPublic(m.getModifiers())) {
                all.add(m.getReturnType().getSimpleName() + " " + m.getName()
                        + names(m.getParameterTypes(), "(", ")")
                        + names(m.getExceptionTypes(), " ", ""));
            }
        }
        return all;
    }

    private static String names(Class<?>[] types, String before, String after) {
        StringBuilder all = new StringBuilder(before);
        for (int i = 0; i < types.length; i++) {
            all.append(i == 0 ? "" : ", ").append(types[i].getSimpleName());
        }
        return all.append(after).toString();
    }

    private static Set<String> hidden(Class<?> c) {
        Set<String> all = new TreeSet<>();
        for (Method m : c.getDeclaredMethods()) {
            if (!Modifier.isPublic(m.getModifiers()) && !Modifier.isPrivate(m.getModifiers())) {
                all.add(m.getName());
            }
        }
        return all;
    }

    private static Set<String> sharedNames(Class<?> c) {
        Set<String> all = new TreeSet<>();
        for (Method a : c.getDeclaredMethods()) {
            for (Method b : c.getDeclaredMethods()) {
                if (Modifier.isPrivate(a.getModifiers()) && Modifier.isPublic(b.getModifiers())
                        && a.getName().equals(b.getName())) {
                    all.add(a.getName());
                }
            }
        }
        return all;
    }
}
