import java.lang.reflect.Constructor;
import java.lang.reflect.Field;
import java.lang.reflect.Method;
import java.lang.reflect.Modifier;
import java.util.Arrays;
import java.util.TreeSet;

/** The class shows the document's face: every call with its types and exceptions, and nothing else. */
public final class FaceTest {
    private static final String[] FACE = {
        "int frame(int, int) IllegalArgumentException IllegalStateException",
        "int push(int, int, boolean, int) IndexOutOfBoundsException IllegalArgumentException IllegalStateException",
        "int set(int, int, int) IndexOutOfBoundsException IllegalArgumentException",
        "int add(int, int) IndexOutOfBoundsException IllegalArgumentException",
        "int off(int, int) IndexOutOfBoundsException IllegalArgumentException",
        "int times(int, int) IndexOutOfBoundsException IllegalArgumentException",
        "int divide(int, int) IndexOutOfBoundsException IllegalArgumentException",
        "int shift(int, boolean) IndexOutOfBoundsException",
        "int tidy(int) IndexOutOfBoundsException",
        "int show(int, int) IndexOutOfBoundsException",
        "int clear(int) IndexOutOfBoundsException",
        "int back(int) IndexOutOfBoundsException IllegalStateException",
        "int grease(int, int) IndexOutOfBoundsException",
        "int strike()",
        "long number(int) IndexOutOfBoundsException",
        "int ofRod(int, int, int) IndexOutOfBoundsException IllegalArgumentException",
        "int ofFrame(int, int) IndexOutOfBoundsException IllegalArgumentException",
        "double seconds(int) IndexOutOfBoundsException",
        "java.lang.String text(int) IndexOutOfBoundsException",
        "int many(int) IllegalArgumentException",
        "long showings(int) IndexOutOfBoundsException",
        "int fewest(int) IndexOutOfBoundsException",
        "int would(int, int, int) IndexOutOfBoundsException IllegalArgumentException",
        "double wouldTake(int, int) IndexOutOfBoundsException IllegalArgumentException",
        "int quicker(int, int, int) IndexOutOfBoundsException IllegalArgumentException",
        "int hardest(int, int) IndexOutOfBoundsException",
        "long digest()",
    };

    public static void main(String[] args) {
        Check check = new Check();
        check.due("modifiers", SorobanHall.class.getModifiers(), Modifier.PUBLIC | Modifier.FINAL);
        check.due("methods", shownMethods(), new TreeSet<>(Arrays.asList(FACE)));
        check.due("constructors", Arrays.toString(SorobanHall.class.getDeclaredConstructors()),
                "[public SorobanHall()]");
        for (Constructor<?> made : SorobanHall.class.getDeclaredConstructors()) {
            check.due("exceptions of the constructor", made.getExceptionTypes().length, 0);
        }
        for (Field field : SorobanHall.class.getDeclaredFields()) {
            check.due("private field " + field.getName(), Modifier.isPrivate(field.getModifiers()), true);
        }
        for (Class<?> inside : SorobanHall.class.getDeclaredClasses()) {
            check.due("not a public class " + inside.getName(), Modifier.isPublic(inside.getModifiers()), false);
        }
        noNameTwice(check);
        check.end("FaceTest");
    }

    private static TreeSet<String> shownMethods() {
        TreeSet<String> found = new TreeSet<>();
        for (Method method : SorobanHall.class.getDeclaredMethods()) {
            if (!Modifier.isPrivate(method.getModifiers()) && !method.isSynthetic()) {
                found.add(told(method));
            }
        }
        return found;
    }

    private static String told(Method method) {
        StringBuilder text = new StringBuilder();
        text.append(method.getReturnType().getName()).append(' ').append(method.getName()).append('(');
        Class<?>[] types = method.getParameterTypes();
        for (int k = 0; k < types.length; k++) {
            text.append(k == 0 ? "" : ", ").append(types[k].getName());
        }
        text.append(')');
        for (Class<?> thrown : method.getExceptionTypes()) {
            text.append(' ').append(thrown.getSimpleName());
        }
        return text.toString();
    }

    /** No method of one's own, also of a class inside, bears the name of a public one. */
    private static void noNameTwice(Check check) {
        TreeSet<String> names = new TreeSet<>();
        for (Method method : SorobanHall.class.getMethods()) {
            names.add(method.getName());
        }
        for (Method method : SorobanHall.class.getDeclaredMethods()) {
            if (Modifier.isPrivate(method.getModifiers())) {
                check.due("own name " + method.getName(), names.contains(method.getName()), false);
            }
        }
        for (Class<?> inside : SorobanHall.class.getDeclaredClasses()) {
            for (Method method : inside.getDeclaredMethods()) {
                check.due("own name " + method.getName(), names.contains(method.getName()), false);
            }
        }
    }
}
