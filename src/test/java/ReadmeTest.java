import java.io.IOException;
import java.lang.reflect.Method;
import java.lang.reflect.Modifier;
import java.nio.file.Files;
import java.nio.file.Path;
import java.util.ArrayList;
import java.util.List;

/** README.md says of each call what the class does: its example is run here, its table has the whole face. */
public final class ReadmeTest {
    private static List<String> readme;

    public static void main(String[] args) throws IOException {
        readme = Files.readAllLines(Path.of("README.md"));
        example();
        for (Method method : PatchStore.class.getDeclaredMethods()) {
            if (Modifier.isPublic(method.getModifiers())) {
                row(method);
            }
        }
        said("An object is used for at most 512 calls after it has been made; what later calls answer is free");
        said(".ci/run");
        Check.finish();
    }

    private static void example() {
        PatchStore store = new PatchStore();
        step("store.feed(0x66000000, 0, 0, 0, 0);", store.feed(0x66000000, 0, 0, 0, 0), 20);
        step("store.end(1);", store.end(1), 1);
        step("int added = store.add(0, 7);", store.add(0, 7), 0);
        step("store.feed(0x610a620a, 0, 0, 0, 0);", store.feed(0x610a620a, 0, 0, 0, 0), 20);
        step("store.end(4);", store.end(4), 4);
        int text = store.record(0, 0);
        step("int text = store.record(0, 0);", text, 1);
        step("int came = store.pull(1, 0, -1);", store.pull(1, 0, -1), 2);
        step("int lines = store.file(1, 0, 0);", store.file(1, 0, 0), 2);
        step("int b = store.line(1, 0, 1, 0);", store.line(1, 0, 1, 0), 98);
        step("int length = store.show(text);", store.show(text), 53);
        step("int again = store.read(0);", store.read(0), 1);
    }

    /** A line of the example, whose comment has the answer among its words. */
    private static void step(String code, int got, int want) {
        Check.due("README.md: " + code, got, want);
        boolean told = readme.stream().anyMatch(line -> line.startsWith(code)
            && line.substring(code.length()).matches(".*\\b" + want + "\\b.*"));
        Check.due("README.md has it with " + want + ": " + code, told ? 1 : 0, 1);
    }

    /** The row of a call in the table: as many arguments, and the exceptions in the document's order. */
    private static void row(Method method) {
        String start = "| `" + method.getName() + "(";
        String row = readme.stream().filter(line -> line.startsWith(start)).findFirst().orElse("");
        String arguments = row.isEmpty() ? "" : row.substring(start.length(), row.indexOf(')'));
        int told = arguments.isEmpty() ? 0 : arguments.split(", ").length;
        Check.due("README.md: arguments of " + method.getName(), told, method.getParameterCount());
        List<String> thrown = new ArrayList<>();
        for (Class<?> type : method.getExceptionTypes()) {
            thrown.add(type.getSimpleName());
        }
        List<String> found = new ArrayList<>();
        String cell = row.substring(row.lastIndexOf("| ", row.length() - 2) + 1);
        for (String word : cell.split("[^A-Za-z]+")) {
            if (word.endsWith("Exception")) {
                found.add(word);
            }
        }
        Check.due("README.md: what " + method.getName() + " throws", found.toString(), thrown.toString());
        Check.due("README.md: a row for " + method.getName(), row.isEmpty() ? 0 : 1, 1);
    }

    /** Whether README.md says this, over whatever line ends. */
    private static void said(String words) {
        Check.due("README.md says: " + words, String.join(" ", readme).contains(words) ? 1 : 0, 1);
    }
}
