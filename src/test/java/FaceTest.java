import java.lang.reflect.Constructor;
import java.lang.reflect.Field;
import java.lang.reflect.Method;
import java.lang.reflect.Modifier;
import java.util.Arrays;
import java.util.TreeSet;

/** The public face of the document, and rule 1 of LANGUAGE.md: nothing else can be seen. */
public final class FaceTest {
    private static final String FACE = "about(2) add(2) call(2) count(1) drop(2) end(1) fault(0) feed(5) file(3)"
        + " has(3) hash(2) line(4) name(4) pull(3) read(1) record(2) show(1) state(2)";

    public static void main(String[] args) {
        TreeSet<String> seen = new TreeSet<>();
        TreeSet<String> open = new TreeSet<>();
        for (Method method : PatchStore.class.getDeclaredMethods()) {
            String text = method.getName() + "(" + method.getParameterCount() + ")";
            boolean plain = Modifier.isPublic(method.getModifiers()) && method.getReturnType() == int.class
                && Arrays.stream(method.getParameterTypes()).allMatch(t -> t == int.class);
            if (plain) {
                seen.add(text);
            } else if (!Modifier.isPrivate(method.getModifiers())) {
                open.add(text);
            }
        }
        for (Field field : PatchStore.class.getDeclaredFields()) {
            if (!Modifier.isPrivate(field.getModifiers())) {
                open.add(field.getName());
            }
        }
        for (Class<?> inside : PatchStore.class.getDeclaredClasses()) {
            if (!Modifier.isStatic(inside.getModifiers()) || Modifier.isPublic(inside.getModifiers())) {
                open.add(inside.getSimpleName());
            }
        }
        Check.due("the methods", String.join(" ", seen), FACE);
        Check.due("what else can be seen", String.join(" ", open), "");
        Check.due("final", Modifier.isFinal(PatchStore.class.getModifiers()) ? 1 : 0, 1);
        Constructor<?>[] constructors = PatchStore.class.getDeclaredConstructors();
        Check.due("constructors", constructors.length, 1);
        Check.due("its parameters", constructors[0].getParameterCount(), 0);
        Check.finish();
    }
}
