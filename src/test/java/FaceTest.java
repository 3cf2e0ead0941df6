import java.lang.reflect.Constructor;
import java.lang.reflect.Field;
import java.lang.reflect.Method;
import java.lang.reflect.Modifier;
import java.util.Arrays;
import java.util.TreeSet;

/** The public face of the document, and rule 1 of LANGUAGE.md: nothing else can be seen. */
public final class FaceTest {
    private static final String ELEMENT = " NoSuchElementException";
    private static final String ARGUMENT = " IllegalArgumentException";
    private static final String STATE = " IllegalStateException";
    private static final String BOUNDS = " IndexOutOfBoundsException";
    private static final String OPERATION = " UnsupportedOperationException";

    private static final String[] FACE = {
        "about(2)" + ELEMENT + ARGUMENT, "add(2)" + ELEMENT + ARGUMENT + STATE, "call(2)" + ELEMENT + ARGUMENT + STATE,
        "count(1)", "drop(2)" + ELEMENT + STATE, "end(1)" + ARGUMENT, "fault(0)", "feed(5)" + STATE,
        "file(3)" + ELEMENT + ARGUMENT, "has(3)" + ELEMENT + ARGUMENT, "hash(2)" + ELEMENT + BOUNDS,
        "line(4)" + ELEMENT + BOUNDS, "name(4)" + ELEMENT + BOUNDS, "pull(3)" + ELEMENT,
        "read(1)" + ELEMENT + ARGUMENT + STATE, "record(2)" + ELEMENT + ARGUMENT + OPERATION + STATE,
        "show(1)" + ELEMENT + OPERATION, "state(2)" + ELEMENT + BOUNDS};

    public static void main(String[] args) {
        TreeSet<String> seen = new TreeSet<>();
        TreeSet<String> open = new TreeSet<>();
        for (Method method : PatchStore.class.getDeclaredMethods()) {
            String text = method.getName() + "(" + method.getParameterCount() + ")";
            boolean plain = Modifier.isPublic(method.getModifiers()) && method.getReturnType() == int.class
                && Arrays.stream(method.getParameterTypes()).allMatch(t -> t == int.class);
            if (plain && !Modifier.isStatic(method.getModifiers())) {
                seen.add(text + thrown(method));
            } else if (!Modifier.isPrivate(method.getModifiers())) {
                open.add(text);
            }
        }
        for (Field field : PatchStore.class.getDeclaredFields()) {
            if (!Modifier.isPrivate(field.getModifiers())) {
                open.add(field.getName());
            }
        }
        for (Class<?> inside : PatchStore.class.getDeclaredClasses()) {
            if (!Modifier.isStatic(inside.getModifiers()) || Modifier.isPublic(inside.getModifiers())) {
                open.add(inside.getSimpleName());
            }
        }
        Check.due("the methods", String.join(", ", seen), String.join(", ", FACE));
        Check.due("what else can be seen", String.join(" ", open), "");
        Check.due("public", Modifier.isPublic(PatchStore.class.getModifiers()) ? 1 : 0, 1);
        Check.due("final", Modifier.isFinal(PatchStore.class.getModifiers()) ? 1 : 0, 1);
        Constructor<?>[] constructors = PatchStore.class.getDeclaredConstructors();
        Check.due("constructors", constructors.length, 1);
        Check.due("its parameters", constructors[0].getParameterCount(), 0);
        Check.due("it is public", Modifier.isPublic(constructors[0].getModifiers()) ? 1 : 0, 1);
        Check.due("what it throws", constructors[0].getExceptionTypes().length, 0);
        Check.finish();
    }

    private static String thrown(Method method) {
        StringBuilder names = new StringBuilder();
        for (Class<?> type : method.getExceptionTypes()) {
            names.append(' ').append(type.getSimpleName());
        }
        return names.toString();
    }
}
