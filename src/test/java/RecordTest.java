import java.util.Arrays;

/** Promises 6 (record), 16 (file) and 18 (line): GRAPH, TEXT, UNSURE, STRANDED and RECORDING. */
public final class RecordTest {
    public static void main(String[] args) {
        firstRecord();
        insertBytes();
        deleteBytes();
        diffTakesOldFirst();
        rowsBetweenKept();
        conflictAndOrder();
        cycle();
        deadOnesLead();
        stranded();
        notStranded();
        sameInsertAgain();
        withoutLf();
        linesLikeEachOther();
        refuses();
        linesOfText();
        fileOfLaterChange();
        Check.finish();
    }

    private static PatchStore withText(String text) {
        PatchStore store = new PatchStore();
        Use.add(store, 0, 1, "f");
        Use.record(store, 0, 0, text);
        return store;
    }

    private static void dueBytes(String what, PatchStore store, int p, byte[] due) {
        Check.due(what + ": length", store.show(p), due.length);
        Check.due(what + ": HASH", Use.hex(Use.hash(store, p)), Use.hex(Model.sha(due)));
    }

    private static void firstRecord() {
        PatchStore store = withText("a\nb\n");
        byte[] due = Use.join(Use.raw(0, 1), Use.hash(store, 0), Use.raw(0, 1, 2, 0, 0, 0, 0, 0, 0, 0, 2,
            0, 2, 'a', 10, 0, 2, 'b', 10));
        dueBytes("first", store, 1, due);
        Check.due("TEXT", Use.text(store, 0, 0), "a\nb\n");
        Check.due("no change", Use.record(store, 0, 0, "a\nb\n"), -1);
        PatchStore empty = new PatchStore();
        Use.add(empty, 0, 1, "f");
        Check.due("nothing to nothing", Use.record(empty, 0, 0, ""), -1);
        Check.due("no PATCH", empty.count(1), 1);
    }

    private static void insertBytes() {
        PatchStore store = withText("a\nb\n");
        byte[] zero = Use.hash(store, 0);
        byte[] one = Use.hash(store, 1);
        Check.due("record", Use.record(store, 0, 0, "x\na\ny\nz\nb\nw"), 2);
        PatchBytes due = new PatchBytes().on(zero, one);
        int f = due.place(zero);
        int[] a = PatchBytes.line(due.place(one), 0, 0);
        int[] b = PatchBytes.line(due.place(one), 0, 1);
        due.insert(f, 0, null, a, "x\n").insert(f, 0, a, b, "y\n", "z\n").insert(f, 0, b, null, "w");
        dueBytes("three INSERTS", store, 2, due.bytes());
        Check.due("TEXT", Use.text(store, 0, 0), "x\na\ny\nz\nb\nw");
        Check.due("CHANGE", store.line(0, 0, 3, -3), 1);
        Check.due("line", store.line(0, 0, 3, -4), 1);
        Check.due("PATCH", store.line(0, 0, 3, -2), 2);
    }

    private static void deleteBytes() {
        PatchStore store = withText("a\nb\nc\nd\n");
        byte[] one = Use.hash(store, 1);
        Check.due("record", Use.record(store, 0, 0, "a\nd\n"), 2);
        dueBytes("DELETES name their LINES alone", store, 2,
            new PatchBytes().on(one).delete(0, 0, 1).delete(0, 0, 2).bytes());
        Check.due("it LEANS on the ADD all the same", store.has(0, 2, 2), 2);
        Check.due("LINES", store.file(0, 0, 0), 2);
        Check.due("DEAD", store.file(0, 0, 4), 2);
        Check.due("bytes", store.file(0, 0, 1), 4);
        Check.due("the rest", Use.record(store, 0, 0, ""), 3);
        Check.due("DEAD", store.file(0, 0, 4), 4);
        Check.due("bytes", store.file(0, 0, 1), 0);
    }

    private static void diffTakesOldFirst() {
        PatchStore store = withText("a\nb\n");
        byte[] zero = Use.hash(store, 0);
        byte[] one = Use.hash(store, 1);
        Use.record(store, 0, 0, "b\na\n");
        PatchBytes due = new PatchBytes().on(zero, one);
        int p = due.place(one);
        due.delete(p, 0, 0).insert(due.place(zero), 0, PatchBytes.line(p, 0, 1), null, "a\n");
        dueBytes("with equal lengths OLD is deleted", store, 2, due.bytes());
        PatchStore greedy = withText("a\nb\na\n");
        Use.record(greedy, 0, 0, "a\n");
        Check.due("the first of two is kept", greedy.line(0, 0, 0, -4), 0);
        PatchStore longer = withText("x\na\nb\n");
        Use.record(longer, 0, 0, "a\nb\nx\n");
        Check.due("the longer part is kept", longer.line(0, 0, 0, -2) * 10 + longer.line(0, 0, 1, -2), 11);
        Check.due("and the other made anew", longer.line(0, 0, 2, -2), 2);
    }

    private static void rowsBetweenKept() {
        PatchStore store = withText("a\np\nq\nb\n");
        byte[] zero = Use.hash(store, 0);
        byte[] one = Use.hash(store, 1);
        Use.record(store, 0, 0, "a\nr\ns\nb\n");
        PatchBytes due = new PatchBytes().on(zero, one);
        int p = due.place(one);
        due.delete(p, 0, 1).delete(p, 0, 2);
        due.insert(due.place(zero), 0, PatchBytes.line(p, 0, 0), PatchBytes.line(p, 0, 3), "r\n", "s\n");
        dueBytes("one row between two kept ones", store, 2, due.bytes());
    }

    private static void conflictAndOrder() {
        PatchStore store = withText("a\nb\n");
        store.pull(1, 0, -1);
        int x = Use.record(store, 0, 0, "a\nx\nb\n");
        int y = Use.record(store, 1, 0, "a\ny\nb\n");
        store.pull(0, 1, -1);
        store.pull(1, 0, -1);
        boolean xFirst = Arrays.compareUnsigned(Use.hash(store, x), Use.hash(store, y)) < 0;
        String byKey = xFirst ? "a\nx\ny\nb\n" : "a\ny\nx\nb\n";
        String turned = xFirst ? "a\ny\nx\nb\n" : "a\nx\ny\nb\n";
        for (int repository = 0; repository < 2; repository++) {
            Check.due("by KEY", Use.text(store, repository, 0), byKey);
            Check.due("UNSURE", store.file(repository, 0, 2), 1);
        }
        Check.due("the same text makes it sure", Use.record(store, 0, 0, byKey), 4);
        byte[] one = Use.hash(store, xFirst ? x : y);
        byte[] two = Use.hash(store, xFirst ? y : x);
        dueBytes("an ORDER", store, 4, new PatchBytes().on(one, two)
            .order(PatchBytes.line(0, 0, 0), PatchBytes.line(1, 0, 0)).bytes());
        Check.due("sure", store.file(0, 0, 2), 0);
        Check.due("TEXT", Use.text(store, 0, 0), byKey);
        Check.due("no second ORDER", Use.record(store, 0, 0, byKey), -1);
        Use.record(store, 1, 0, turned);
        Check.due("turned: one is made anew", store.count(2), 5);
        Check.due("turned", Use.text(store, 1, 0), turned);
    }

    /** Two ORDERS against one another: neither LINE counts for the other. */
    private static void cycle() {
        PatchStore store = new PatchStore();
        PatchBytes patch = new PatchBytes().add(0, "f");
        int own = PatchBytes.OWN;
        patch.insert(own, 0, null, null, "a\n").insert(own, 0, null, null, "b\n").insert(own, 0, null, null, "c\n");
        int[] a = PatchBytes.line(own, 1, 0);
        int[] b = PatchBytes.line(own, 2, 0);
        int[] c = PatchBytes.line(own, 3, 0);
        Use.read(store, 0, patch.order(c, b).order(b, c).order(c, a).bytes());
        Check.due("TEXT", Use.text(store, 0, 0), "b\nc\na\n");
        Check.due("UNSURE", store.file(0, 0, 2), 1);
        Check.due("each is BEFORE the next: no ORDER", Use.record(store, 0, 0, "b\nc\na\n"), -1);
        PatchStore self = new PatchStore();
        PatchBytes loop = new PatchBytes().add(0, "f").insert(own, 0, null, null, "a\n");
        loop.insert(own, 0, PatchBytes.line(own, 1, 0), PatchBytes.line(own, 1, 0), "b\n");
        Use.read(self, 0, loop.bytes());
        Check.due("UP and DOWN the same LINE", Use.text(self, 0, 0), "a\nb\n");
        Check.due("UNSURE", self.file(0, 0, 2), 1);
    }

    private static void deadOnesLead() {
        PatchStore store = withText("a\nb\nc\n");
        Use.record(store, 0, 0, "a\nc\n");
        Check.due("a is BEFORE c over a DEAD LINE", store.file(0, 0, 2), 0);
        Check.due("no ORDER is needed", store.count(4) - 11 - 57, 2 + 32 + 2 + 7);
        Check.due("TEXT", Use.text(store, 0, 0), "a\nc\n");
    }

    private static void stranded() {
        PatchStore store = withText("a\nb\nc\n");
        for (int repository = 1; repository < 5; repository++) {
            store.pull(repository, 0, -1);
        }
        Use.record(store, 0, 0, "a\nc\n");
        Use.record(store, 1, 0, "a\nb\nx\ny\nc\n");
        Use.record(store, 2, 0, "a\nz\nb\nc\n");
        store.pull(1, 0, -1);
        Check.due("both LINES behind the deleted UP", store.file(1, 0, 3), 2);
        Check.due("TEXT", Use.text(store, 1, 0), "a\nx\ny\nc\n");
        store.pull(1, 2, -1);
        Check.due("and the one with a deleted DOWN", store.file(1, 0, 3), 3);
        Use.record(store, 1, 0, "a\nz\ny\nc\n");
        Check.due("a DEAD LINE is not STRANDED", store.file(1, 0, 3), 2);
        Use.record(store, 3, 0, "a\nb\nv\nw\nc\n");
        int leans = Use.record(store, 3, 0, "a\nv\nc\n");
        Check.due("it names both PATCHES", store.has(3, leans, 2), 3);
        Check.due("what LEANS on the INSERT strands none", store.file(3, 0, 3), 0);
        store.pull(3, 0, -1);
        Check.due("one that does not LEAN on it does", store.file(3, 0, 3), 1);
        store.drop(3, leans);
        Check.due("both LINES are ALIVE", store.file(3, 0, 3), 2);
        store.drop(3, 2);
        Check.due("nothing is deleted", Use.text(store, 3, 0) + store.file(3, 0, 3), "a\nb\nv\nw\nc\n0");
        Use.record(store, 4, 0, "a\nb\nq\nc\n");
        Check.due("a DELETE that names no more than its LINE", Use.record(store, 4, 0, "a\nq\nc\n"), 2);
        Check.due("LEANS not on the INSERT: STRANDED", store.file(4, 0, 3), 1);
    }

    /** A PATCH that deletes what it inserts at, and one whose INSERT LEANS on the PATCH that deletes. */
    private static void notStranded() {
        PatchStore store = withText("a\nb\nc\n");
        byte[] zero = Use.hash(store, 0);
        byte[] one = Use.hash(store, 1);
        PatchBytes same = new PatchBytes().on(zero, one);
        int p = same.place(one);
        same.delete(p, 0, 1).insert(same.place(zero), 0, PatchBytes.line(p, 0, 1), null, "x\n");
        Check.due("read", Use.read(store, 0, same.bytes()), 2);
        Check.due("the same PATCH", store.file(0, 0, 3), 0);
        byte[] two = Use.hash(store, 2);
        PatchBytes later = new PatchBytes().on(zero, one, two);
        int f = later.place(zero);
        int[] b = PatchBytes.line(later.place(one), 0, 1);
        later.insert(f, 0, b, PatchBytes.line(later.place(two), 1, 0), "y\n").insert(f, 0, null, b, "z\n");
        Check.due("read", Use.read(store, 0, later.bytes()), 3);
        Check.due("the INSERT LEANS on the DELETE", store.file(0, 0, 3), 0);
        store.pull(1, 0, 1);
        int other = Use.record(store, 1, 0, "a\nc\n");
        store.pull(0, 1, other);
        Check.due("all three, by another DELETE", store.file(0, 0, 3), 3);
        Check.due("DEAD once", store.file(0, 0, 4), 1);
    }

    private static void sameInsertAgain() {
        PatchStore store = withText("a\nb\n");
        int x = Use.record(store, 0, 0, "a\nx\nb\n");
        Use.record(store, 0, 0, "a\nb\n");
        Check.due("the same BYTES are the same PATCH", Use.record(store, 0, 0, "a\nx\nb\n"), x);
        Check.due("whose LINE is DEAD", Use.text(store, 0, 0), "a\nb\n");
        Check.due("THE STOCK has it once", store.count(1), 4);
        Check.due("so has the SET", store.about(0, 0), 4);
    }

    private static void withoutLf() {
        PatchStore store = withText("a");
        Check.due("TEXT", Use.text(store, 0, 0), "a");
        Check.due("LF makes it another LINE", Use.record(store, 0, 0, "a\n"), 2);
        Check.due("TEXT", Use.text(store, 0, 0), "a\n");
        Check.due("DEAD", store.file(0, 0, 4), 1);
        Use.record(store, 0, 0, "a\nb");
        store.pull(1, 0, -1);
        Use.record(store, 0, 0, "a\nb\u00ff");
        Use.record(store, 1, 0, "a\nc");
        store.pull(0, 1, -1);
        Check.due("in the midst of a TEXT", store.file(0, 0, 1), 5);
        Check.due("UNSURE", store.file(0, 0, 2), 1);
    }

    /** LINES that are like one another to a sum of their bytes with weights of 31. */
    private static void linesLikeEachOther() {
        PatchStore store = withText("ab\n");
        Check.due("other bytes", Use.record(store, 0, 0, "bC\n"), 2);
        Check.due("TEXT", Use.text(store, 0, 0), "bC\n");
        Check.due("a zero in front", Use.record(store, 0, 0, "\u0000bC\n"), 3);
        Check.due("TEXT", Use.text(store, 0, 0), "\u0000bC\n");
        Check.due("both", Use.record(store, 0, 0, "bC\n\u0000bC\nab\n"), 4);
        Check.due("one is kept", store.line(0, 0, 1, -2), 3);
    }

    private static void refuses() {
        PatchStore store = withText("a\n");
        Use.tape(store, "x".repeat(500) + "\n");
        Check.illegalArgument("501 bytes", () -> store.record(0, 0));
        Check.noSuchElement("FILE first", () -> store.record(0, 1));
        Check.noSuchElement("FILE first", () -> store.record(0, -1));
        Check.noSuchElement("REPOSITORY first", () -> store.record(8, 0));
        Check.noSuchElement("a SET without FILES", () -> store.record(1, 0));
        Use.tape(store, "x".repeat(501));
        Check.illegalArgument("501 bytes without LF", () -> store.record(0, 0));
        Use.tape(store, "\n".repeat(201));
        Check.unsupported("201 LINES", () -> store.record(0, 0));
        Check.due("THE TAPE stays", store.count(0), 201);
        Use.tape(store, "\n".repeat(201) + "x".repeat(501));
        Check.illegalArgument("the long LINE is named first", () -> store.record(0, 0));
        Check.due("nothing came", store.count(1), 2);
        Check.due("500 bytes", Use.record(store, 0, 0, "x".repeat(499) + "\n"), 2);
        Check.due("bytes", store.file(0, 0, 1), 500);
        Check.due("200 LINES", Use.record(store, 0, 0, "\n".repeat(200)), 3);
        Check.due("LINES", store.file(0, 0, 0), 200);
        Check.due("the last byte of a LINE", store.line(0, 0, 199, 0), 10);
        PatchBytes more = new PatchBytes().on(Use.hash(store, 0));
        Use.read(store, 0, more.insert(0, 0, null, null, "y").bytes());
        Check.due("201 LINES", store.file(0, 0, 0), 201);
        Use.tape(store, "");
        Check.unsupported("OLD has 201 LINES", () -> store.record(0, 0));
    }

    private static void linesOfText() {
        PatchStore store = withText("ab\u00ff\nc\n");
        Check.due("length", store.line(0, 0, 0, -1), 4);
        Check.due("byte", store.line(0, 0, 0, 2), 255);
        Check.due("LF", store.line(0, 0, 0, 3), 10);
        Check.due("PATCH", store.line(0, 0, 1, -2), 1);
        Check.due("CHANGE", store.line(0, 0, 1, -3), 0);
        Check.due("line", store.line(0, 0, 1, -4), 1);
        Check.outOfBounds("byte", () -> store.line(0, 0, 0, 4));
        Check.outOfBounds("byte", () -> store.line(0, 0, 0, -5));
        Check.noSuchElement("LINE", () -> store.line(0, 0, 2, 0));
        Check.noSuchElement("LINE is named first", () -> store.line(0, 0, -1, -9));
        Check.noSuchElement("FILE", () -> store.line(0, 1, 0, 0));
        Check.noSuchElement("REPOSITORY", () -> store.line(9, 0, 0, 0));
    }

    /** REFS of an INSERT to an ADD and to LINES that are not the first of their PATCH. */
    private static void fileOfLaterChange() {
        PatchStore store = new PatchStore();
        int own = PatchBytes.OWN;
        byte[] bytes = new PatchBytes().add(0, "f").add(1, "g").insert(own, 0, null, null, "a\n")
            .insert(own, 1, null, null, "b\n", "c\n").bytes();
        Use.read(store, 0, bytes);
        Check.due("FILE 1", Use.text(store, 0, 1), "b\nc\n");
        Use.record(store, 0, 1, "b\nx\nc\n");
        dueBytes("record", store, 1, new PatchBytes().on(Use.hash(store, 0))
            .insert(0, 1, PatchBytes.line(0, 3, 0), PatchBytes.line(0, 3, 1), "x\n").bytes());
        Check.due("FILE 0 is as it was", Use.text(store, 0, 0), "a\n");
        Check.due("FILE 1", Use.text(store, 0, 1), "b\nx\nc\n");
        Check.due("the PATCH that ADDS it", store.file(0, 1, 6), 0);
    }
}
