import java.util.ArrayList;
import java.util.List;

/**
 * "What it is": PATCHES can be taken in any order, and REPOSITORIES with the same PATCHES have the same texts,
 * conflicts among them, whichever way these came, and whatever was there in between.
 */
public final class AnyOrderTest {
    /** Well above what the PATCHES made here have. */
    private static final int ORDERS_MOST = 5000;

    private final List<Model.Patch> patches;
    private final List<List<Model.Patch>> orders = new ArrayList<>();

    private AnyOrderTest(List<Model.Patch> patches) {
        this.patches = patches;
        addOrders(new ArrayList<>());
    }

    public static void main(String[] args) {
        AnyOrderTest test = new AnyOrderTest(withConflicts());
        Check.due("more than a few orders, and all of them",
            test.orders.size() > 100 && test.orders.size() < ORDERS_MOST ? 1 : 0, 1);
        test.conflictsAreThere();
        test.readInAllOrders();
        test.pulledAndDropped();
        Check.finish();
    }

    /** One FILE with two NAMES, new LINES at one place, STRANDED ones and an ORDER; another with one of the NAMES. */
    private static List<Model.Patch> withConflicts() {
        Twin twin = new Twin("the PATCHES");
        make(twin, "add", 0, 1, "f");
        make(twin, "record", 0, 0, "a\nb\nc\n");
        twin.ask("pull", 1, 0, -1);
        make(twin, "call", 0, 0, "g");
        make(twin, "call", 1, 0, "h");
        make(twin, "record", 0, 0, "a\nx\nb\nc\nw\n");
        make(twin, "record", 1, 0, "a\ny\nc\n");
        make(twin, "add", 2, 1, "g");
        twin.ask("pull", 3, 1, -1);
        make(twin, "record", 3, 0, "a\ny\nc\nz\n");
        twin.ask("pull", 0, 1, -1);
        // The TEXT as it is, recorded: what was UNSURE in it becomes an ORDER.
        make(twin, "record", 0, 0, String.join("", twin.model.textLines(0, 0)));
        return twin.model.stock;
    }

    private static void make(Twin twin, String call, int repository, int number, String tape) {
        twin.lay(Use.bytes(tape));
        twin.ask(call, repository, number);
    }

    /** All orders in which each PATCH comes behind its DEPENDENCIES. */
    private void addOrders(List<Model.Patch> taken) {
        if (taken.size() == patches.size() && orders.size() < ORDERS_MOST) {
            orders.add(new ArrayList<>(taken));
        }
        for (Model.Patch patch : patches) {
            if (!taken.contains(patch) && taken.containsAll(patch.dependencies)) {
                taken.add(patch);
                addOrders(taken);
                taken.remove(taken.size() - 1);
            }
        }
    }

    private static PatchStore read(List<Model.Patch> order, int repository) {
        PatchStore store = new PatchStore();
        for (int i = 0; i < order.size(); i++) {
            Check.due("the PATCH's number", Use.read(store, repository, order.get(i).bytes), i);
        }
        return store;
    }

    private void conflictsAreThere() {
        PatchStore store = read(patches, 0);
        Check.due("FILES with two NAMES", store.about(0, 2), 1);
        Check.due("FILES that share a NAME", store.about(0, 3), 2);
        int k = Use.fileOf(store, 0, 0);
        Check.due("UNSURE", store.file(0, k, 2) > 0 ? 1 : 0, 1);
        Check.due("STRANDED", store.file(0, k, 3) > 0 ? 1 : 0, 1);
    }

    private void readInAllOrders() {
        String due = seen(read(orders.get(0), 0), 0);
        for (int i = 1; i < orders.size(); i++) {
            int repository = i % 8;
            Check.due("read in order " + i, seen(read(orders.get(i), repository), repository), due);
        }
    }

    /** In one STOCK: PATCH after PATCH from one SET to another, some of them dropped in between and taken again. */
    private void pulledAndDropped() {
        String due = seen(read(patches, 0), 0);
        for (int i = 0; i < orders.size(); i += 7) {
            PatchStore store = read(patches, 0);
            for (Model.Patch patch : orders.get(i)) {
                store.pull(1, 0, patch.number);
                store.pull(2, 0, patch.number);
                store.drop(2, patch.number);
                seen(store, 2, store.about(2, 1));
                store.pull(2, 0, patch.number);
            }
            Check.due("pulled in order " + i, seen(store, 1), due);
            Check.due("pulled and dropped in order " + i, seen(store, 2, store.about(2, 1)), seen(store, 1,
                store.about(1, 1)));
            Check.due("state", Use.hex(Use.state(store, 2)), Use.hex(Use.state(store, 0)));
        }
    }

    /** All that the face tells of a REPOSITORY but for the numbers of PATCHES, which their HASHES stand for. */
    private static String seen(PatchStore store, int repository) {
        StringBuilder out = new StringBuilder(Use.hex(Use.state(store, repository)));
        for (int what = 0; what < 4; what++) {
            out.append(' ').append(store.about(repository, what));
        }
        int files = store.about(repository, 1);
        for (int k = 0; k < files; k++) {
            addFile(out, store, repository, k);
        }
        return out.toString();
    }

    /** Less of it, for as many FILES. */
    private static String seen(PatchStore store, int repository, int files) {
        StringBuilder out = new StringBuilder();
        for (int k = 0; k < files; k++) {
            for (int what = 0; what < 7; what++) {
                out.append(' ').append(store.file(repository, k, what));
            }
        }
        return out.toString();
    }

    private static void addFile(StringBuilder out, PatchStore store, int repository, int k) {
        out.append('\n').append(store.hash(store.file(repository, k, 6), 0));
        for (int what = 0; what < 6; what++) {
            out.append(' ').append(store.file(repository, k, what));
        }
        int namings = store.file(repository, k, 5);
        for (int j = 0; j < namings; j++) {
            out.append(' ').append(Use.name(store, repository, k, j));
        }
        int lines = store.file(repository, k, 0);
        for (int j = 0; j < lines; j++) {
            out.append('\n').append(store.hash(store.line(repository, k, j, -2), 0));
            for (int i = -4; i < store.line(repository, k, j, -1); i++) {
                out.append(i == -2 ? "" : " " + store.line(repository, k, j, i));
            }
        }
    }
}
