import java.util.ArrayList;
import java.util.List;

/** Promises 10 (pull), 11 (drop), 12 (has), 13 (hash) and 14 (state). */
public final class SetsTest {
    public static void main(String[] args) {
        pullAndHas();
        drop();
        hashes();
        states();
        anyOrder();
        Check.finish();
    }

    /** PATCHES of SET 0: 0 ADDS f, 1 has its text, 2 and 3 are on 1, 4 ADDS g. */
    private static PatchStore filled() {
        PatchStore store = new PatchStore();
        Use.add(store, 0, 1, "f");
        Use.record(store, 0, 0, "a\nb\n");
        Use.record(store, 0, 0, "a\nx\nb\n");
        Use.record(store, 0, 0, "a\nx\n");
        Use.add(store, 0, 2, "g");
        return store;
    }

    private static void pullAndHas() {
        PatchStore store = filled();
        Check.due("with what it LEANS on", store.pull(1, 0, 2), 3);
        Check.due("once more", store.pull(1, 0, 2), 0);
        Check.due("the rest", store.pull(1, 0, -1), 2);
        Check.due("nothing more", store.pull(1, 0, Integer.MIN_VALUE), 0);
        Check.due("from itself", store.pull(0, 0, -1), 0);
        Check.due("from itself", store.pull(0, 0, 3), 0);
        Check.due("from an empty one", store.pull(0, 7, -1), 0);
        Check.due("one alone", store.pull(2, 0, 4), 1);
        Check.noSuchElement("it has no such PATCH", () -> store.pull(0, 2, 0));
        Check.noSuchElement("there is no such PATCH", () -> store.pull(0, 0, 5));
        Check.noSuchElement("there is no such PATCH", () -> store.pull(0, 0, Integer.MAX_VALUE));
        Check.noSuchElement("no such REPOSITORY", () -> store.pull(8, 0, -1));
        Check.noSuchElement("no such REPOSITORY", () -> store.pull(0, -1, -1));
        Check.due("in the SET", store.has(1, 3, 0), 1);
        Check.due("not in the SET", store.has(2, 3, 0), 0);
        Check.due("LEAN on 0", store.has(1, 0, 1), 3);
        Check.due("LEAN on 1", store.has(1, 1, 1), 2);
        Check.due("LEAN on 2", store.has(1, 2, 1), 0);
        Check.due("of an empty SET", store.has(7, 0, 1), 0);
        Check.due("0 LEANS on", store.has(1, 0, 2), 0);
        Check.due("2 LEANS on", store.has(1, 2, 2), 2);
        Check.due("whether the SET has it or not", store.has(7, 2, 2), 2);
        Check.illegalArgument("what", () -> store.has(0, 0, 3));
        Check.illegalArgument("what", () -> store.has(0, 0, -1));
        Check.noSuchElement("PATCH is named first", () -> store.has(0, 5, 3));
        Check.noSuchElement("PATCH", () -> store.has(0, -1, 0));
        Check.noSuchElement("REPOSITORY", () -> store.has(8, 0, 0));
    }

    private static void drop() {
        PatchStore store = filled();
        Check.illegalState("3 is on it", () -> store.drop(0, 1));
        Check.illegalState("1 is on it", () -> store.drop(0, 0));
        Check.noSuchElement("the SET has it not", () -> store.drop(1, 0));
        Check.noSuchElement("there is none", () -> store.drop(0, 5));
        Check.noSuchElement("there is none", () -> store.drop(0, -1));
        Check.noSuchElement("no such REPOSITORY", () -> store.drop(8, 0));
        Check.due("a throw changes nothing", store.about(0, 0), 5);
        Check.due("2", store.drop(0, 2), 4);
        Check.due("TEXT", Use.text(store, 0, 0) + Use.text(store, 0, 1), "a\n");
        Check.noSuchElement("it is gone", () -> store.drop(0, 2));
        Check.due("3", store.drop(0, 3), 3);
        Check.due("1", store.drop(0, 1), 2);
        Check.due("0", store.drop(0, 0), 1);
        Check.due("4", store.drop(0, 4), 0);
        Check.due("FILES", store.about(0, 1), 0);
        Check.due("THE STOCK", store.count(1), 5);
        store.show(1);
        Check.illegalArgument("what it is on is not there", () -> store.read(0));
        store.show(0);
        Check.due("taken again", store.read(0), 0);
    }

    private static void hashes() {
        PatchStore store = new PatchStore();
        List<byte[]> all = new ArrayList<>();
        for (int length = 1; length <= 64; length++) {
            String name = "n".repeat(length);
            Use.add(store, length % 8, length, name);
            all.add(new PatchBytes().add(length, name).bytes());
        }
        for (int p = 0; p < 64; p++) {
            Check.due("HASH of " + p, Use.hex(Use.hash(store, p)), Use.hex(Model.sha(all.get(p))));
        }
        Check.outOfBounds("i", () -> store.hash(0, 32));
        Check.outOfBounds("i", () -> store.hash(0, -1));
        Check.noSuchElement("PATCH is named first", () -> store.hash(64, 32));
        Check.noSuchElement("PATCH", () -> store.hash(-1, 0));
    }

    private static void states() {
        PatchStore store = filled();
        List<byte[]> hashes = new ArrayList<>();
        for (int p = 0; p < 5; p++) {
            hashes.add(Use.hash(store, p));
        }
        hashes.sort(java.util.Arrays::compareUnsigned);
        String due = Use.hex(Model.sha(Use.join(hashes.toArray(new byte[0][]))));
        Check.due("state", Use.hex(Use.state(store, 0)), due);
        store.pull(1, 0, -1);
        Check.due("the same PATCHES", Use.hex(Use.state(store, 1)), due);
        store.drop(1, 4);
        Check.due("others", Use.hex(Use.state(store, 1)).equals(due) ? 1 : 0, 0);
        store.pull(1, 0, 4);
        Check.due("the same again", Use.hex(Use.state(store, 1)), due);
        Check.outOfBounds("i", () -> store.state(0, 32));
        Check.outOfBounds("i", () -> store.state(0, -1));
        Check.noSuchElement("REPOSITORY is named first", () -> store.state(8, 32));
    }

    /** Two stores that read the same PATCHES in different orders have the same texts. */
    private static void anyOrder() {
        PatchStore store = filled();
        PatchStore other = new PatchStore();
        for (int p : new int[] {4, 0, 1, 3, 2}) {
            Use.read(other, 6, bytesOf(store, p));
        }
        Check.due("state", Use.hex(Use.state(other, 6)), Use.hex(Use.state(store, 0)));
        for (int k = 0; k < 2; k++) {
            Check.due("NAME", Use.name(other, 6, k, 0), Use.name(store, 0, k, 0));
            Check.due("TEXT", Use.text(other, 6, k), Use.text(store, 0, k));
        }
    }

    /** The BYTES of a PATCH, seen as the text of a FILE: there is no call that tells THE TAPE's bytes. */
    private static byte[] bytesOf(PatchStore store, int p) {
        Use.add(store, 7, 99, "bytes");
        int length = store.show(p);
        int made = store.record(7, 0);
        String text = Use.text(store, 7, 0);
        store.drop(7, made);
        Check.due("all bytes", text.length(), length);
        return Use.bytes(text);
    }
}
