/**
 * FULL, in every way that it comes about, for promises 4 to 7, and what promise 9 (show) does not show.
 * Some of these runs have more than 512 calls, of which the document says nothing; this store goes on alike.
 */
public final class LimitsTest {
    private static final int OWN = PatchBytes.OWN;

    public static void main(String[] args) {
        patches();
        files();
        linesOfFile();
        linesOfFileInOnePatch();
        lines();
        bytes();
        longPatch();
        manyChanges();
        Check.finish();
    }

    /** That nothing new comes to THE STOCK, and what is there can still be taken. FILE 0 has a text. */
    private static void dueFull(String what, PatchStore store, int repository) {
        int before = store.count(1);
        Use.tape(store, "brand-new");
        Check.illegalState(what + ": add", () -> store.add(repository, 77));
        Check.due(what + ": THE TAPE stays", store.count(0), 9);
        Check.noSuchElement(what + ": REPOSITORY is named first", () -> store.add(8, 77));
        Use.tape(store, new PatchBytes().add(78, "brand-new").bytes());
        Check.illegalState(what + ": read", () -> store.read(repository));
        Check.due(what + ": fault", store.fault(), 0);
        Check.due(what + ": PATCHES", store.count(1), before);
        store.show(0);
        Check.due(what + ": a PATCH that there is", store.read(repository), 0);
    }

    private static void patches() {
        PatchStore store = new PatchStore();
        Use.add(store, 0, 0, "f");
        Use.record(store, 0, 0, "a\n");
        for (int i = 2; i < 500; i++) {
            Use.call(store, 0, 0, "n" + i);
        }
        Check.due("PATCHES", store.count(1), 500);
        Check.due("all in the SET", store.about(0, 0), 500);
        Check.due("LEAN on the first", store.has(0, 0, 1), 499);
        Check.due("the last LEANS on", store.has(0, 499, 2), 498);
        dueFull("500 PATCHES", store, 0);
        Use.tape(store, "g");
        Check.illegalState("call", () -> store.call(0, 0));
        Use.tape(store, "b\n");
        Check.illegalState("record", () -> store.record(0, 0));
        Check.due("record without a PATCH", Use.record(store, 0, 0, "a\n"), -1);
        Check.due("pull", store.pull(1, 0, 499), 499);
        Check.due("drop", store.drop(0, 499), 499);
        Check.due("NAME", Use.name(store, 0, 0, 0), "n498");
        Check.due("the same CALL", Use.call(store, 0, 0, "n499"), 499);
    }

    private static void files() {
        PatchStore store = new PatchStore();
        PatchBytes many = new PatchBytes();
        for (int i = 0; i < 200; i++) {
            many.add(i, "f");
        }
        byte[] most = many.bytes();
        byte[] more = many.add(200, "f").bytes();
        Use.tape(store, more);
        Check.illegalState("201 FILES", () -> store.read(0));
        Check.due("200 FILES", Use.read(store, 0, most), 0);
        Check.due("FILES", store.count(3), 200);
        Check.due("sharing one NAME", store.about(0, 3), 200);
        Check.due("by number", store.file(0, 199, 6), 0);
        dueFull("200 FILES", store, 0);
        Check.due("record", Use.record(store, 0, 199, "a\n"), 1);
        Check.due("TEXT", Use.text(store, 0, 199), "a\n");
        Check.due("call", Use.call(store, 0, 3, ""), 2);
        Check.due("the next one comes up", Use.text(store, 0, 198), "a\n");
    }

    private static void linesOfFile() {
        PatchStore store = new PatchStore();
        Use.add(store, 0, 0, "f");
        Check.due("200 LINES", Use.record(store, 0, 0, "a\n".repeat(200)), 1);
        Check.due("400 LINES", Use.record(store, 0, 0, "b\n".repeat(200)), 2);
        Check.due("LINES", store.count(2), 400);
        Check.due("ALIVE", store.file(0, 0, 0), 200);
        Check.due("DEAD", store.file(0, 0, 4), 200);
        Use.tape(store, "c\n");
        Check.illegalState("401 LINES", () -> store.record(0, 0));
        Use.tape(store, new PatchBytes().on(Use.hash(store, 0)).insert(0, 0, null, null, "c\n").bytes());
        Check.illegalState("401 LINES", () -> store.read(0));
        Check.due("in another SET, too", store.pull(1, 0, 0), 1);
        Use.tape(store, "c\n");
        Check.illegalState("401 LINES", () -> store.record(1, 0));
        Check.due("fewer", Use.record(store, 0, 0, "b\n".repeat(7)), 3);
        Check.due("ALIVE", store.file(0, 0, 0), 7);
        store.pull(1, 0, 1);
        store.drop(0, 3);
        store.drop(0, 2);
        Check.due("a PATCH that there is", Use.record(store, 0, 0, "b\n".repeat(200)), 2);
        Check.due("another FILE", Use.add(store, 0, 1, "g"), 4);
        int g = store.file(0, 0, 6) == 4 ? 0 : 1;
        Check.due("has room", Use.record(store, 0, g, "c\n"), 5);
    }

    private static void linesOfFileInOnePatch() {
        PatchStore store = new PatchStore();
        String[] half = new String[200];
        java.util.Arrays.fill(half, "x");
        PatchBytes patch = new PatchBytes().add(0, "f").add(0, "g").insert(OWN, 0, null, null, half)
            .insert(OWN, 1, null, null, "y").insert(OWN, 0, PatchBytes.line(OWN, 2, 199), null, half);
        byte[] most = patch.bytes();
        Use.tape(store, patch.insert(OWN, 0, null, null, "z").bytes());
        Check.illegalState("401 LINES of a FILE", () -> store.read(0));
        Check.due("nothing came", store.count(2) + store.count(3), 0);
        Check.due("400 LINES of a FILE", Use.read(store, 0, most), 0);
        Check.due("LINES", store.file(0, 0, 0), 400);
        Check.due("one chain", store.file(0, 0, 2), 0);
        Check.due("the last one", store.line(0, 0, 399, -4), 199);
        Use.tape(store, "");
        Check.unsupported("OLD has 400", () -> store.record(0, 0));
        Use.tape(store, "x".repeat(501));
        Check.illegalArgument("the long LINE is named first", () -> store.record(0, 0));
    }

    private static void lines() {
        PatchStore store = new PatchStore();
        for (int salt = 0; salt < 10; salt++) {
            Use.add(store, salt % 8, salt, "f");
            for (int k = 0; k < store.about(salt % 8, 1); k++) {
                if (store.file(salt % 8, k, 0) == 0) {
                    Use.record(store, salt % 8, k, "a\n".repeat(200));
                    Use.record(store, salt % 8, k, "b\n".repeat(200));
                }
            }
        }
        Check.due("LINES", store.count(2), 4000);
        Use.add(store, 7, 10, "g");
        int k = store.file(7, 0, 0) == 0 ? 0 : 1;
        Use.tape(store, "c\n");
        Check.illegalState("4,001 LINES: record", () -> store.record(7, k));
        Use.tape(store, new PatchBytes().add(0, "f").insert(OWN, 0, null, null, "x").bytes());
        Check.illegalState("4,001 LINES: read", () -> store.read(7));
        Check.due("LINES", store.count(2), 4000);
        Check.due("no LINES", Use.call(store, 7, k, "h"), store.count(1) - 1);
    }

    private static void bytes() {
        PatchStore store = new PatchStore();
        String[] wide = new String[100];
        java.util.Arrays.fill(wide, "w".repeat(500));
        for (int i = 0; i < 3; i++) {
            Use.read(store, 0, new PatchBytes().add(i, "f").insert(OWN, 0, null, null, wide).bytes());
        }
        Use.add(store, 0, 9, "f");
        int left = 200000 - store.count(4);
        // 99 LINES, of which the last one takes what the others leave of the room.
        String[] rest = new String[99];
        java.util.Arrays.fill(rest, "v".repeat(497));
        rest[98] = "v".repeat(left - 20 - 99 * 2 - 98 * 497);
        byte[] last = new PatchBytes().add(3, "f").insert(OWN, 0, null, null, rest).bytes();
        Check.due("the test's own sum", last.length, left);
        Use.tape(store, new PatchBytes().add(3, "ff").insert(OWN, 0, null, null, rest).bytes());
        Check.illegalState("200,001 BYTES", () -> store.read(0));
        Check.due("200,000 BYTES", Use.read(store, 0, last), 4);
        Check.due("BYTES", store.count(4), 200000);
        dueFull("200,000 BYTES", store, 1);
        Use.tape(store, "");
        Check.illegalState("call", () -> store.call(0, 0));
        Use.tape(store, "x");
        Check.illegalState("record", () -> store.record(0, 0));
        Check.due("BYTES", store.count(4), 200000);
    }

    private static void longPatch() {
        PatchStore store = new PatchStore();
        Use.add(store, 0, 0, "f");
        StringBuilder text = new StringBuilder();
        for (int i = 0; i < 131; i++) {
            text.append("x".repeat(499)).append('\n');
        }
        text.append("y".repeat(20));
        Use.tape(store, text.toString());
        Check.due("record", store.record(0, 0), 1);
        Check.due("BYTES", store.count(4), 11 + 45 + 2 * 132 + 65520);
        Use.tape(store, "t");
        Check.unsupported("show", () -> store.show(1));
        Check.due("THE TAPE stays", store.count(0), 1);
        Check.due("bytes", store.file(0, 0, 1), 65520);
        Check.due("the last LINE", store.line(0, 0, 131, -1), 20);
        for (int more = 0; more < 2; more++) {
            Use.add(store, 1 + more, more, "g");
            int cut = 65536 + more - 45 - 2 * 131 - 130 * 500;
            Use.record(store, 1 + more, 0, text.substring(0, 65000) + "z".repeat(cut));
        }
        Check.due("65,536 BYTES", store.show(3), 65536);
        Check.unsupported("65,537 BYTES", () -> store.show(5));
    }

    /** As many CHANGES as THE TAPE holds: each DELETE has 7 bytes. */
    private static void manyChanges() {
        PatchStore store = new PatchStore();
        PatchBytes patch = new PatchBytes().add(0, "f").insert(OWN, 0, null, null, "x", "y");
        for (int i = 0; i < 9350; i++) {
            patch.delete(OWN, 1, 0);
        }
        Check.due("read", Use.read(store, 0, patch.bytes()), 0);
        Check.due("DEAD", store.file(0, 0, 4), 1);
        Check.due("TEXT", Use.text(store, 0, 0), "y");
        for (int salt = 1; salt < 3; salt++) {
            PatchBytes more = new PatchBytes().add(salt, "f").insert(OWN, 0, null, null, "x", "y");
            for (int i = 0; i < 9350; i++) {
                more.delete(OWN, 1, 1);
            }
            Check.due("read", Use.read(store, salt, more.bytes()), salt);
            Check.due("TEXT", Use.text(store, salt, 0), "x");
        }
        PatchBytes last = new PatchBytes().add(9, "f").insert(OWN, 0, null, null, "x", "y");
        for (int i = 0; i < 9350; i++) {
            last.delete(OWN, 1, 1);
        }
        Use.tape(store, last.bytes());
        Check.illegalState("too many BYTES", () -> store.read(4));
        PatchBytes wrong = last.delete(OWN, 1, 2);
        Check.due("but a fault is named first", Use.faultOf(store, 4, wrong.bytes()), 3);
    }
}
