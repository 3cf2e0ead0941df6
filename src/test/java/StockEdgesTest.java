import java.util.Arrays;

/**
 * THE STOCK: "at most 500, with at most 4,000 LINES and 200 FILES, at most 400 LINES in one FILE, and 200,000
 * BYTES in all: FULL if it would be more". For each of these the last PATCH that is taken and the first that is
 * not, by add, call, record and read; that a refused call leaves all as it was; and that a PATCH that there is
 * is taken all the same. Some runs have more than 512 calls, of which the document says nothing; this store goes
 * on alike. That what is made has the HASH of a PATCH with other DEPENDENCIES cannot be brought about.
 */
public final class StockEdgesTest {
    private static final int OWN = PatchBytes.OWN;
    private static final String[] CALLS = {"add", "call", "record", "read"};
    /** How many BYTES the PATCHES have that fresh makes by each of these calls. */
    private static final int[] SIZES = {11, 2 + 2 * 32 + 2 + 12, 2 + 2 * 32 + 2 + 7 + 13, 11};

    public static void main(String[] args) {
        patches();
        patchesInARow();
        files();
        filesInOnePatch();
        linesOfFile();
        linesOfFileByRecord();
        linesOfFileInOnePatch();
        lines();
        bytes();
        noneTwice();
        forGood();
        showMost();
        orderOfExceptions();
        Check.finish();
    }

    /**
     * PATCHES: 0 ADDS f, 1 and 2 give it a text each, 3 and 4 call it n and m, 5 gives it no NAME.
     * SETS: 0 has 0, 1, 4; 1 has 0; 2 has 0, 2, 3; 3 has 0, 5.
     */
    private static PatchStore base() {
        PatchStore store = new PatchStore();
        Use.add(store, 0, 0, "f");
        for (int repository = 1; repository < 4; repository++) {
            store.pull(repository, 0, 0);
        }
        Use.record(store, 0, 0, "a\n");
        Use.record(store, 2, 0, "b\n");
        Use.call(store, 2, 0, "n");
        Use.call(store, 0, 0, "m");
        Use.call(store, 3, 0, "");
        return store;
    }

    /** Lays on THE TAPE what makes a new PATCH in SET 0 by this call. */
    private static void lay(PatchStore store, int call) {
        if (call == 3) {
            Use.tape(store, new PatchBytes().add(78, "f").bytes());
        } else {
            Use.tape(store, new String[] {"f", "n", "b\n"}[call]);
        }
    }

    private static int fresh(PatchStore store, int call) {
        switch (call) {
            case 0:
                return store.add(0, 77);
            case 1:
                return store.call(0, Use.fileOf(store, 0, 0));
            case 2:
                return store.record(0, Use.fileOf(store, 0, 0));
            default:
                return store.read(0);
        }
    }

    /** What the same TAPE makes elsewhere, which is there already; read has nothing of the kind. */
    private static void known(PatchStore store, int call) {
        int due = new int[] {0, 3, 2}[call];
        if (call == 0) {
            Check.due("THE TAPE stays: add", store.add(5, 0), due);
        } else if (call == 1) {
            Check.due("THE TAPE stays: call", store.call(1, Use.fileOf(store, 1, 0)), due);
            store.drop(1, due);
        } else {
            Check.due("THE TAPE stays: record", store.record(1, Use.fileOf(store, 1, 0)), due);
            store.drop(1, due);
        }
        Check.due("and is taken", store.count(0), 0);
    }

    private static void full(String what, PatchStore store, int... calls) {
        for (int call : calls) {
            String here = what + ": " + CALLS[call];
            lay(store, call);
            Edge.refused(here, store, Edge.STATE, () -> fresh(store, call));
            Check.due(here + ": fault", store.fault(), 0);
            if (call == 3) {
                Edge.refused(here + " again", store, Edge.STATE, () -> fresh(store, call));
            } else {
                known(store, call);
            }
        }
        store.show(0);
        Check.due(what + ": read of a PATCH that there is", store.read(6), 0);
        store.pull(4, 2, 3);
        store.show(2);
        Check.due(what + ": read of another", store.read(4), 2);
        store.drop(3, 5);
        Check.due(what + ": call of one", store.call(3, 0), 5);
        int k = Use.fileOf(store, 0, 0);
        Check.due(what + ": record without a PATCH", Use.record(store, 0, k, Use.text(store, 0, k)), -1);
    }

    private static void open(String what, PatchStore store, int... calls) {
        for (int call : calls) {
            int before = store.count(1);
            lay(store, call);
            Check.due(what + ": " + CALLS[call], fresh(store, call), before);
            Check.due(what + ": PATCHES", store.count(1), before + 1);
            Check.due(what + ": THE TAPE", store.count(0), 0);
        }
    }

    /** "at most 500" PATCHES. */
    private static void patches() {
        for (int call = 0; call < 4; call++) {
            PatchStore store = withPatches(499);
            open("500 PATCHES", store, call);
            Check.due("PATCHES", store.count(1), 500);
            full("501 PATCHES", store, call == 0 ? 3 : 0);
        }
        full("501 PATCHES", withPatches(500), 0, 1, 2, 3);
    }

    /** A row of PATCHES, each on the one before it: LEANS, drop and pull with numbers of every size. */
    private static void patchesInARow() {
        PatchStore store = withPatches(500);
        for (int p = 6; p < 500; p++) {
            Check.due("LEAN on " + p, store.has(7, p, 1), 499 - p);
            Check.due(p + " LEANS on", store.has(7, p, 2), p - 5);
            Check.due("in SET 7", store.has(7, p, 0), 1);
            Check.due("not in SET 0", store.has(0, p, 0), 0);
            int patch = p;
            Check.due("drop of " + p, Check.answer(() -> store.drop(7, patch)), p == 499 ? "494" : Edge.STATE);
        }
        Check.due("pull of the last that is left", store.pull(6, 7, 498), 494);
        Check.due("pull of one in the midst", store.pull(5, 7, 300), 296);
        for (int p = 498; p >= 6; p--) {
            Check.due("drop of " + p, store.drop(7, p), p - 5);
        }
        Check.due("the others have theirs", store.about(6, 0) + store.about(5, 0), 494 + 296);
    }

    private static PatchStore withPatches(int total) {
        PatchStore store = base();
        store.pull(7, 0, 0);
        for (int i = store.count(1); i < total; i++) {
            Use.call(store, 7, 0, "n" + i);
        }
        Check.due("PATCHES", store.count(1), total);
        return store;
    }

    /** A PATCH that ADDS so many FILES. */
    private static byte[] files(int total) {
        PatchBytes patch = new PatchBytes();
        for (int i = 0; i < total; i++) {
            patch.add(i, "many");
        }
        return patch.bytes();
    }

    /** "200 FILES": base has one, those that are not THERE, and those in no SET, count too. */
    private static void files() {
        for (int call : new int[] {0, 3}) {
            PatchStore store = base();
            Use.read(store, 5, files(198));
            Check.due("FILES", store.count(3), 199);
            open("200 FILES", store, call);
            Check.due("FILES", store.count(3), 200);
            full("201 FILES", store, 3 - call);
            open("no FILE more", store, 1, 2);
        }
        PatchStore store = base();
        int many = Use.read(store, 5, files(199));
        full("201 FILES", store, 0, 3);
        store.drop(5, many);
        full("201 FILES, most in no SET", store, 0, 3);
        Use.call(store, 0, 0, "");
        Use.tape(store, "f");
        Edge.refused("201 FILES, one not THERE", store, Edge.STATE, () -> store.add(0, 77));
        Check.due("FILES", store.count(3), 200);
    }

    private static void filesInOnePatch() {
        PatchStore store = new PatchStore();
        Use.tape(store, files(201));
        Edge.refused("201 FILES in one PATCH", store, Edge.STATE, () -> store.read(0));
        Check.due("200 FILES in one PATCH", Use.read(store, 0, files(200)), 0);
        Check.due("all THERE", store.about(0, 1), 200);
        Check.due("the last", store.file(0, 199, 6), 0);
        Check.due("no other", Check.answer(() -> store.file(0, 200, 6)), Edge.ELEMENT);
    }

    /** "at most 400 LINES in one FILE": DEAD ones, and those of other SETS, count too; base has two. */
    private static void linesOfFile() {
        for (int left = 0; left < 3; left++) {
            PatchStore store = base();
            store.pull(5, 0, 0);
            Use.read(store, 5, insert(store, 398 - left));
            Check.due("LINES", store.count(2), 400 - left);
            Use.tape(store, insert(store, left + 1));
            Edge.refused("read of one too many", store, Edge.STATE, () -> store.read(0));
            Use.tape(store, text(left + 1));
            Edge.refused("record of one too many", store, Edge.STATE, () -> store.record(0, 0));
            if (left > 0) {
                Check.due("read of as many as are left", Use.read(store, 5, insert(store, left)), 7);
                Check.due("LINES", store.count(2), 400);
            }
            full("401 LINES of one FILE", store, 2);
            Check.due("another FILE", Use.add(store, 4, 9, "g"), store.count(1) - 1);
            int g = Use.fileOf(store, 4, store.count(1) - 1);
            Check.due("has room", Use.record(store, 4, g, text(200)), store.count(1) - 1);
        }
    }

    private static void linesOfFileByRecord() {
        PatchStore store = base();
        for (int repository = 5; repository < 8; repository++) {
            store.pull(repository, 0, 0);
        }
        Check.due("200 LINES", Use.record(store, 5, 0, text(198)), 6);
        Check.due("399 LINES", Use.record(store, 6, 0, text(199)), 7);
        Check.due("400 LINES", Use.record(store, 7, 0, "z\n"), 8);
        full("401 LINES of one FILE", store, 2);
        store.drop(5, 6);
        store.drop(7, 8);
        full("401 LINES of one FILE, most in no SET", store, 2);
        Check.due("a DELETE alone", Use.record(store, 6, 0, "\n".repeat(198)), 9);
    }

    private static byte[] insert(PatchStore store, int total) {
        return new PatchBytes().on(Use.hash(store, 0)).insert(0, 0, null, null, some(total)).bytes();
    }

    private static String[] some(int total) {
        String[] lines = new String[total];
        Arrays.fill(lines, "x");
        return lines;
    }

    private static String text(int total) {
        return "t" + total + "\n" + "\n".repeat(Math.max(0, total - 1));
    }

    private static void linesOfFileInOnePatch() {
        for (int last = 1; last <= 2; last++) {
            PatchStore store = new PatchStore();
            PatchBytes patch = new PatchBytes().add(0, "f").add(0, "g").insert(OWN, 1, null, null, some(200))
                .insert(OWN, 0, null, null, some(399)).insert(OWN, 0, null, null, some(last));
            Use.tape(store, patch.bytes());
            if (last == 1) {
                Check.due("400 LINES by two INSERTS", store.read(0), 0);
                Check.due("LINES", store.file(0, 0, 0), 400);
                Check.due("the last LINE", store.line(0, 0, 399, 0), 'x');
                Check.due("no other", Check.answer(() -> store.line(0, 0, 400, 0)), Edge.ELEMENT);
            } else {
                Edge.refused("401 LINES by two INSERTS", store, Edge.STATE, () -> store.read(0));
            }
        }
    }

    /** "4,000 LINES": base has two. */
    private static void lines() {
        for (int left = 0; left < 3; left++) {
            PatchStore store = base();
            for (int i = 0; i < 9; i++) {
                Use.read(store, 5, new PatchBytes().add(i, "many").insert(OWN, 0, null, null, some(400)).bytes());
            }
            Use.read(store, 5, new PatchBytes().add(9, "many").insert(OWN, 0, null, null, some(398 - left)).bytes());
            Check.due("LINES", store.count(2), 4000 - left);
            Use.tape(store, text(left + 1));
            Edge.refused("record of one too many", store, Edge.STATE, () -> store.record(0, 0));
            Use.tape(store, new PatchBytes().add(0, "g").add(0, "h").insert(OWN, 0, null, null, some(left + 1)).bytes());
            Edge.refused("read of one too many", store, Edge.STATE, () -> store.read(0));
            Use.tape(store, new PatchBytes().add(0, "g").add(0, "h").insert(OWN, 0, null, null, "x")
                .insert(OWN, 1, null, null, some(Math.max(left, 1))).bytes());
            Edge.refused("read of one too many in two FILES", store, Edge.STATE, () -> store.read(0));
            if (left > 0) {
                store.pull(7, 0, 1);
                Check.due("as many as are left", Use.record(store, 7, 0, text(left) + "a\n"), 16);
                Check.due("LINES", store.count(2), 4000);
                Check.due("in front of the other one", Use.text(store, 7, 0) + store.file(7, 0, 2), text(left) + "a\n0");
            }
            full("4,001 LINES", store, 2);
            open("no LINE more", store, 0, 1, 3);
            Check.due("a DELETE alone", Use.record(store, 0, Use.fileOf(store, 0, 0), ""), store.count(1) - 1);
        }
    }

    /** Fills THE STOCK by PATCHES in SET 5, so that so many BYTES are left. */
    private static void fillBytes(PatchStore store, int left) {
        for (int salt = 0; store.count(4) < 200000 - left; salt++) {
            int room = 200000 - left - store.count(4);
            int size = room > 60000 ? 50000 : room;
            Use.read(store, 5, patchOf(100 + salt, size));
        }
        Check.due("BYTES", store.count(4), 200000 - left);
    }

    /** A PATCH of so many BYTES, some thousands: its LINES share them as evenly as can be. */
    private static byte[] patchOf(int salt, int size) {
        int rest = size - 20;
        String[] lines = new String[(rest + 501) / 502];
        for (int i = 0; i < lines.length; i++) {
            lines[i] = "w".repeat(rest / lines.length - 2 + (i < rest % lines.length ? 1 : 0));
        }
        byte[] bytes = new PatchBytes().add(salt, "f").insert(OWN, 0, null, null, lines).bytes();
        Check.due("the test's own sum", bytes.length, size);
        return bytes;
    }

    /** "200,000 BYTES in all". */
    private static void bytes() {
        for (int call = 0; call < 4; call++) {
            PatchStore store = base();
            fillBytes(store, SIZES[call]);
            open("200,000 BYTES", store, call);
            Check.due("BYTES", store.count(4), 200000);
            full("not one BYTE more", store, call == 0 ? 3 : 0);
            PatchStore less = base();
            fillBytes(less, SIZES[call] - 1);
            full("200,001 BYTES", less, call);
        }
        PatchStore store = base();
        fillBytes(store, 0);
        full("no BYTES left", store, 0, 1, 2, 3);
    }

    /** "none twice (by HASH)": whatever call makes it, and whatever call made it first. */
    private static void noneTwice() {
        PatchStore store = base();
        byte[] add = new PatchBytes().add(77, "f").bytes();
        byte[] f = Use.hash(store, 0);
        byte[] call = new PatchBytes().on(f).call(0, 0, "k", 0, 0).bytes();
        byte[] record = new PatchBytes().on(f).insert(0, 0, null, null, "t\n").bytes();
        Check.due("read", Use.read(store, 1, add), 6);
        Check.due("read", Use.read(store, 1, call), 7);
        Check.due("read", Use.read(store, 1, record), 8);
        store.pull(5, 0, 0);
        Check.due("the same by add", Use.add(store, 0, 77, "f"), 6);
        Check.due("the same by call", Use.call(store, 5, 0, "k"), 7);
        Check.due("the same by record", Use.record(store, 5, 0, "t\n"), 8);
        Check.due("THE STOCK has each once", store.count(1), 9);
        Check.due("the SET has them", store.has(5, 7, 0) + store.has(5, 8, 0) + store.has(0, 6, 0), 3);
        for (int p = 0; p < 9; p++) {
            PatchStore other = base();
            Use.add(other, 0, 77, "f");
            other.pull(5, 0, 0);
            Use.call(other, 5, 0, "k");
            Use.record(other, 5, 0, "t\n");
            Check.due("made first", other.count(1), 9);
            other.pull(4, 0, -1);
            other.pull(4, 2, -1);
            other.show(p);
            Check.due("then read", other.read(4), p);
            Check.due("THE STOCK has it once", other.count(1), 9);
        }
    }

    /** "A PATCH stays in it for good". */
    private static void forGood() {
        PatchStore store = new PatchStore();
        Use.add(store, 0, 0, "f");
        Use.record(store, 0, 0, "a\n");
        String counts = counts(store);
        String hash = Use.hex(Use.hash(store, 1));
        store.drop(0, 1);
        store.drop(0, 0);
        Check.due("all SETS are empty", store.about(0, 0), 0);
        Check.due("THE STOCK is as it was", counts(store), counts);
        Check.due("its HASH", Use.hex(Use.hash(store, 1)), hash);
        Check.due("it LEANS on", store.has(0, 1, 2), 1);
        Check.due("pull of it", Check.answer(() -> store.pull(1, 0, 1)), Edge.ELEMENT);
        Check.due("show", store.show(1), 49);
        Check.due("read without what it is on", Check.answer(() -> store.read(3)), Edge.ARGUMENT);
        Check.due("fault", store.fault(), 2);
        Check.due("the same ADD", Use.add(store, 3, 0, "f"), 0);
        Check.due("the same record", Use.record(store, 3, 0, "a\n"), 1);
        Check.due("THE STOCK is as it was", counts(store), counts);
    }

    private static String counts(PatchStore store) {
        return store.count(1) + " " + store.count(2) + " " + store.count(3) + " " + store.count(4);
    }

    /** show: "there are more than 65,536". */
    private static void showMost() {
        for (int size = 65535; size <= 65537; size++) {
            PatchStore store = Edge.withProbe();
            Use.add(store, 0, 0, "f");
            // One DEPENDENCY, one INSERT: 45 BYTES, and 2 more for each of 132 LINES.
            String text = ("x".repeat(494) + "\n").repeat(131) + "y".repeat(size - 45 - 2 * 132 - 131 * 495);
            Check.due("record", Use.record(store, 0, 0, text), 2);
            Use.tape(store, "tape");
            if (size <= 65536) {
                Check.due("show", store.show(2), size);
                Check.due("THE TAPE", store.count(0), size);
                Check.due("taken back", store.pull(1, 0, 1) * 10 + store.read(1), 12);
            } else {
                Edge.refusedWithFault("show of 65,537", store, Edge.UNSUPPORTED, () -> store.show(2));
                Edge.tapeIs("show of 65,537", store, Use.bytes("tape"));
                Check.due("no PATCH is named first", Check.answer(() -> store.show(9)), Edge.ELEMENT);
            }
        }
    }

    /** FULL is what add, call, record and read name last. */
    private static void orderOfExceptions() {
        PatchStore store = base();
        fillBytes(store, 0);
        for (int repository : Edge.NO_REPOSITORIES) {
            Use.tape(store, "f");
            Edge.refused("add: REPOSITORY", store, Edge.ELEMENT, () -> store.add(repository, 77));
            Edge.refused("call: REPOSITORY", store, Edge.ELEMENT, () -> store.call(repository, 0));
            Edge.refused("record: REPOSITORY", store, Edge.ELEMENT, () -> store.record(repository, 0));
            Use.tape(store, new PatchBytes().add(78, "f").bytes());
            Edge.refused("read: REPOSITORY", store, Edge.ELEMENT, () -> store.read(repository));
        }
        Use.tape(store, "f");
        Edge.refused("call: FILE", store, Edge.ELEMENT, () -> store.call(0, 1));
        Edge.refused("record: FILE", store, Edge.ELEMENT, () -> store.record(0, 1));
        Use.tape(store, " ");
        Edge.refused("add: no NAME", store, Edge.ARGUMENT, () -> store.add(0, 77));
        Edge.refused("call: no NAME", store, Edge.ARGUMENT, () -> store.call(0, 0));
        Use.tape(store, "x".repeat(501));
        Edge.refused("record: a LINE of 501", store, Edge.ARGUMENT, () -> store.record(0, 0));
        Use.tape(store, "x\n".repeat(201));
        Edge.refused("record: 201 LINES", store, Edge.UNSUPPORTED, () -> store.record(0, 0));
        Use.tape(store, "x\n".repeat(200));
        Edge.refused("record: 200 LINES", store, Edge.STATE, () -> store.record(0, 0));
        byte[][] wrong = {Use.raw(0, 0, 0, 1, 9), new PatchBytes().on(new byte[32]).add(0, "n").bytes(),
            new PatchBytes().delete(OWN, 0, 0).bytes(), new PatchBytes().on(Use.hash(store, 0)).add(0, "n").bytes()};
        for (int fault = 1; fault <= 4; fault++) {
            Use.tape(store, wrong[fault - 1]);
            Edge.faulty("read: fault " + fault, store, 0, fault);
        }
        Use.tape(store, new PatchBytes().add(78, "f").bytes());
        Edge.refused("read: FULL", store, Edge.STATE, () -> store.read(0));
        Check.due("the last read threw something else", store.fault(), 0);
    }
}
