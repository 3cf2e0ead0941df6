import java.util.ArrayList;
import java.util.Arrays;
import java.util.List;
import java.util.TreeSet;

/**
 * RECORDING, sentence by sentence: the document's own words as plain code, over all short texts, compared with
 * the PATCH that record makes, byte by byte by its HASH.
 */
public final class RecordingEdgesTest {
    /** A LINE of OLD: where a REF finds it, and its bytes. */
    private static final class Old {
        final String hash;
        final int change;
        final int line;
        final String bytes;

        Old(PatchStore store, int k, int j) {
            hash = Use.hex(Use.hash(store, store.line(0, k, j, -2)));
            change = store.line(0, k, j, -3);
            line = store.line(0, k, j, -4);
            StringBuilder text = new StringBuilder();
            for (int i = 0; i < store.line(0, k, j, -1); i++) {
                text.append((char) store.line(0, k, j, i));
            }
            bytes = text.toString();
        }
    }

    /** Whether one LINE of OLD is BEFORE another, by their places there. */
    private interface Before {
        boolean is(int one, int other);
    }

    private final List<Old> old = new ArrayList<>();
    private final List<String> wanted;
    private final Before before;
    private final String file;
    /** For each LINE of NEW the place of the kept LINE of OLD that it is, or -1. */
    private final int[] kept;
    private final List<Old> deleted = new ArrayList<>();

    private RecordingEdgesTest(PatchStore store, List<String> wanted, Before before) {
        for (int j = 0; j < store.file(0, 0, 0); j++) {
            old.add(new Old(store, 0, j));
        }
        this.wanted = wanted;
        this.before = before;
        this.file = Use.hex(Use.hash(store, store.file(0, 0, 6)));
        this.kept = new int[wanted.size()];
        walk();
    }

    public static void main(String[] args) {
        allShortTexts();
        lfAtTheEnd();
        unorderedTexts();
        partlyOrdered();
        ties();
        firstAndLast();
        namedAlone();
        Check.finish();
    }

    /** "L(i, j): the greatest length of a common part of OLD from i on and NEW from j on, in order". */
    private int common(int i, int j) {
        if (i == old.size() || j == wanted.size()) {
            return 0;
        }
        int best = Math.max(common(i + 1, j), common(i, j + 1));
        return old.get(i).bytes.equals(wanted.get(j)) ? Math.max(best, 1 + common(i + 1, j + 1)) : best;
    }

    private void walk() {
        int i = 0;
        int j = 0;
        while (i < old.size() || j < wanted.size()) {
            boolean isOld = i < old.size();
            boolean isNew = j < wanted.size();
            if (isOld && isNew && old.get(i).bytes.equals(wanted.get(j))) {
                kept[j] = i;
                i++;
                j++;
            } else if (!isNew || isOld && common(i + 1, j) >= common(i, j + 1)) {
                deleted.add(old.get(i));
                i++;
            } else {
                kept[j] = -1;
                j++;
            }
        }
    }

    /** The BYTES that are due; null for none. */
    private byte[] due() {
        TreeSet<String> named = new TreeSet<>();
        write(new PatchBytes(), new ArrayList<>(), named);
        List<String> hashes = new ArrayList<>(named);
        PatchBytes patch = new PatchBytes().on(hashes.stream().map(RecordingEdgesTest::unhex).toArray(byte[][]::new));
        return write(patch, hashes, named) ? patch.bytes() : null;
    }

    private static byte[] unhex(String text) {
        byte[] bytes = new byte[text.length() / 2];
        for (int i = 0; i < bytes.length; i++) {
            bytes[i] = (byte) Integer.parseInt(text.substring(2 * i, 2 * i + 2), 16);
        }
        return bytes;
    }

    private static int place(String hash, List<String> hashes, TreeSet<String> named) {
        named.add(hash);
        return Math.max(hashes.indexOf(hash), 0);
    }

    private static int[] ref(Old line, List<String> hashes, TreeSet<String> named) {
        return PatchBytes.line(place(line.hash, hashes, named), line.change, line.line);
    }

    private boolean write(PatchBytes patch, List<String> hashes, TreeSet<String> named) {
        boolean any = false;
        for (Old line : deleted) {
            int[] ref = ref(line, hashes, named);
            patch.delete(ref[0], ref[1], ref[2]);
            any = true;
        }
        for (int j = 0; j < kept.length; j++) {
            if (kept[j] < 0 && (j == 0 || kept[j - 1] >= 0)) {
                int end = j;
                while (end < kept.length && kept[end] < 0) {
                    end++;
                }
                int[] up = j == 0 ? null : ref(old.get(kept[j - 1]), hashes, named);
                int[] down = end == kept.length ? null : ref(old.get(kept[end]), hashes, named);
                patch.insert(place(file, hashes, named), 0, up, down, wanted.subList(j, end).toArray(new String[0]));
                any = true;
            }
        }
        for (int j = 1; j < kept.length; j++) {
            if (kept[j - 1] >= 0 && kept[j] >= 0 && !before.is(kept[j - 1], kept[j])) {
                patch.order(ref(old.get(kept[j - 1]), hashes, named), ref(old.get(kept[j]), hashes, named));
                any = true;
            }
        }
        return any;
    }

    private static void check(PatchStore store, List<String> wanted, Before before) {
        String what = Use.text(store, 0, 0).replace('\n', '/') + " to " + String.join("", wanted).replace('\n', '/');
        byte[] due = new RecordingEdgesTest(store, wanted, before).due();
        int patches = store.count(1);
        String state = Use.hex(Use.state(store, 0));
        int made = Use.record(store, 0, 0, String.join("", wanted));
        Check.due(what + ": THE TAPE", store.count(0), 0);
        if (due == null) {
            Check.due(what + ": no PATCH", made, -1);
            Check.due(what + ": PATCHES", store.count(1), patches);
            Check.due(what + ": state", Use.hex(Use.state(store, 0)), state);
        } else {
            Check.due(what + ": its length", store.show(made), due.length);
            Check.due(what + ": its HASH", Use.hex(Use.hash(store, made)), Use.hex(Model.sha(due)));
            Check.due(what + ": in the SET", store.has(0, made, 0), 1);
            Check.due(what + ": TEXT", Use.text(store, 0, 0), String.join("", wanted));
        }
    }

    /** With a text of SET 7 recorded before, longer than all that follow: what it left must not count. */
    private static PatchStore withText(List<String> text) {
        PatchStore store = new PatchStore();
        Use.add(store, 7, 7, "g");
        Use.record(store, 7, 0, "a\n".repeat(9));
        Use.record(store, 7, 0, "a\n".repeat(9) + "b\n");
        Use.add(store, 0, 3, "f");
        Use.record(store, 0, 0, String.join("", text));
        Check.due("LINES", store.file(0, 0, 0), text.size());
        return store;
    }

    /** All texts of these LINES with so many of them or fewer. */
    private static List<List<String>> texts(int most, String... lines) {
        List<List<String>> all = new ArrayList<>();
        all.add(List.of());
        for (int from = 0, length = 1; length <= most; length++) {
            int to = all.size();
            for (int i = from; i < to; i++) {
                for (String line : lines) {
                    List<String> longer = new ArrayList<>(all.get(i));
                    longer.add(line);
                    all.add(longer);
                }
            }
            from = to;
        }
        return all;
    }

    /** All texts of up to four LINES a and b, or three of three sorts, to all such texts. */
    private static void allShortTexts() {
        List<List<String>> two = texts(4, "a\n", "b\n");
        Check.due("texts of two sorts", two.size(), 31);
        List<List<String>> three = texts(3, "a\n", "b\n", "c\n");
        Check.due("texts of three sorts", three.size(), 40);
        for (List<List<String>> texts : List.of(two, three)) {
            for (List<String> from : texts) {
                for (List<String> to : texts) {
                    check(withText(from), to, (one, other) -> one < other);
                }
            }
        }
    }

    /** "the same: byte for byte": the last LINE with and without LF are two. */
    private static void lfAtTheEnd() {
        List<List<String>> texts = new ArrayList<>();
        for (List<String> text : texts(2, "a\n", "\n")) {
            texts.add(text);
            List<String> longer = new ArrayList<>(text);
            longer.add("a");
            texts.add(longer);
        }
        // Bytes that are nothing in a sum: LINES of them are still as long as they are.
        texts.add(List.of("\0"));
        texts.add(List.of("\0\0"));
        texts.add(List.of("\0\n", "\0\0\n", "\0"));
        for (List<String> from : texts) {
            for (List<String> to : texts) {
                check(withText(from), to, (one, other) -> one < other);
            }
        }
    }

    /** Three LINES none of which is BEFORE another: "an ORDER for each two kept ones next to each other". */
    private static void unorderedTexts() {
        for (List<String> to : texts(4, "a\n", "b\n", "c\n", "n\n")) {
            PatchStore store = new PatchStore();
            Use.add(store, 0, 3, "f");
            for (int i = 0; i < 3; i++) {
                store.pull(i + 1, 0, 0);
                Use.record(store, i + 1, 0, "abc".charAt(i) + "\n");
            }
            for (int i = 0; i < 3; i++) {
                store.pull(0, i + 1, -1);
            }
            Check.due("UNSURE", store.file(0, 0, 2), 2);
            check(store, to, (one, other) -> false);
        }
    }

    /** Two rows of two LINES each: "of which the first is not BEFORE the second". */
    private static void partlyOrdered() {
        for (List<String> to : texts(4, "a\n", "b\n", "c\n", "d\n")) {
            PatchStore store = new PatchStore();
            Use.add(store, 0, 3, "f");
            store.pull(1, 0, 0);
            Use.record(store, 0, 0, "a\nb\n");
            Use.record(store, 1, 0, "c\nd\n");
            store.pull(0, 1, -1);
            // OLD has one row and then the other, whichever is first by KEY.
            check(store, to, (one, other) -> one < other && one / 2 == other / 2);
        }
    }

    /** "L(i + 1, j) is not less than L(i, j + 1): OLD i is deleted; else NEW j is new". */
    private static void ties() {
        PatchStore tie = withText(List.of("a\n", "b\n"));
        Use.record(tie, 0, 0, "b\na\n");
        Check.due("as long both ways: OLD is deleted, b kept", tie.line(0, 0, 0, -2), 4);
        Check.due("and a is new", tie.line(0, 0, 1, -2), 5);
        PatchStore less = withText(List.of("a\n", "b\n", "c\n"));
        Use.record(less, 0, 0, "c\na\nb\n");
        Check.due("longer with NEW passed by: c is new", less.line(0, 0, 0, -2), 5);
        Check.due("a and b are kept", less.line(0, 0, 1, -2) + less.line(0, 0, 2, -2), 4 + 4);
        PatchStore more = withText(List.of("c\n", "a\n", "b\n"));
        Use.record(more, 0, 0, "a\nb\nc\n");
        Check.due("longer with OLD passed by: a and b are kept", more.line(0, 0, 0, -2) + more.line(0, 0, 1, -2), 4 + 4);
        Check.due("c is new", more.line(0, 0, 2, -2), 5);
    }

    /** "UP: the kept one before, else TOP; DOWN: the kept one behind, else none". */
    private static void firstAndLast() {
        PatchStore store = withText(List.of("a\n"));
        check(store, List.of("x\n", "a\n", "y\n"), (one, other) -> one < other);
        Check.due("two INSERTS", store.line(0, 0, 0, -3) * 10 + store.line(0, 0, 2, -3), 1);
        check(store, List.of("z\n"), (one, other) -> one < other);
        Check.due("UNSURE", store.file(0, 0, 2), 0);
        check(store, List.of(), (one, other) -> one < other);
        check(store, List.of(), (one, other) -> one < other);
        Check.due("nothing is ALIVE", store.file(0, 0, 0), 0);
        Check.due("all are DEAD", store.file(0, 0, 4), 4);
    }

    /** "DEPENDENCIES: those PATCHES that are named": no PATCH of a LINE that is only kept. */
    private static void namedAlone() {
        PatchStore store = withText(List.of("a\n", "b\n"));
        Use.record(store, 0, 0, "a\nb\nc\n");
        Use.record(store, 0, 0, "a\nb\nc\nd\n");
        int made = Use.record(store, 0, 0, "a\nc\nd\n");
        Check.due("a DELETE is on the LINE's PATCH, and so on the ADD", store.has(0, made, 2), 2);
        made = Use.record(store, 0, 0, "x\na\nc\nd\n");
        Check.due("an INSERT at the top is on the ADD and a's PATCH", store.has(0, made, 2), 2);
        made = Use.record(store, 0, 0, "x\na\nc\nd\ny\n");
        Check.due("one at the end is on d's PATCH and all that it LEANS on", store.has(0, made, 2), 4);
        Check.due("their order", Arrays.asList(store.has(0, 4, 1), store.has(0, 5, 1)).toString(), "[5, 2]");
    }
}
