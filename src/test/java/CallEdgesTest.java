import java.util.function.ToIntFunction;

/**
 * Promises 1 to 19, sentence by sentence, where one names an edge: the last value that is taken, the first that
 * is refused, the exception that is named first, and that a refused call leaves all as it was.
 */
public final class CallEdgesTest {
    private static final int LOW = Integer.MIN_VALUE;
    private static final int HIGH = Integer.MAX_VALUE;

    public static void main(String[] args) {
        newObject();
        feed();
        end();
        add();
        addNames();
        call();
        callNames();
        callOrder();
        record();
        recordLines();
        recordOrder();
        read();
        fault();
        show();
        pull();
        drop();
        has();
        hash();
        state();
        about();
        file();
        name();
        line();
        count();
        otherCalls();
        Check.finish();
    }

    /**
     * PATCHES: 0 the probe's, 1 ADDS f, 2 its text, 3 and 4 call it g and hh, 5 ADDS x.
     * SETS: 0 has 1, 2, 3, 4; 1 has 1, 2, 4; 2 has 5; 7 has 0.
     */
    private static PatchStore made() {
        PatchStore store = Edge.withProbe();
        Use.add(store, 0, 1, "f");
        Use.record(store, 0, 0, "a\nb\n");
        store.pull(1, 0, -1);
        Use.call(store, 0, 0, "g");
        Use.call(store, 1, 0, "hh");
        store.pull(0, 1, -1);
        Use.add(store, 2, 5, "x");
        return store;
    }

    private static void refused(String what, String exception, String tape, ToIntFunction<PatchStore> call) {
        PatchStore store = made();
        Use.tape(store, tape);
        Edge.refusedWithFault(what, store, exception, () -> call.applyAsInt(store));
        Edge.tapeIs(what, store, Use.bytes(tape));
    }

    /** "THE STOCK and all SETS are empty"; of two objects each has its own. */
    private static void newObject() {
        PatchStore other = made();
        PatchStore store = new PatchStore();
        for (int what = 0; what < 5; what++) {
            Check.due("new: count " + what, store.count(what), 0);
        }
        for (int repository = 0; repository < 8; repository++) {
            for (int what = 0; what < 4; what++) {
                Check.due("new: about " + what, store.about(repository, what), 0);
            }
            int here = repository;
            Check.due("new: no PATCH", Check.answer(() -> store.has(here, 0, 0)), Edge.ELEMENT);
            Check.due("new: no FILE", Check.answer(() -> store.file(here, 0, 0)), Edge.ELEMENT);
            Check.due("new: nothing to pull", store.pull(0, repository, -1), 0);
        }
        Check.due("new: fault", store.fault(), 0);
        Check.due("the other one is as it was", other.count(1), 6);
    }

    /** "The four bytes of each, the highest first"; "there is no room for 20". */
    private static void feed() {
        PatchStore store = Edge.withProbe();
        Check.due("feed", store.feed(-1, LOW, HIGH, 0x01020304, 0xfffefdfc), 20);
        Edge.tapeIs("feed", store, Use.raw(255, 255, 255, 255, 128, 0, 0, 0, 127, 255, 255, 255, 1, 2, 3, 4,
            255, 254, 253, 252));
        PatchStore room = withTape(65516);
        Check.due("room for 20", room.feed(1, 2, 3, 4, 5), 65536);
        Edge.refusedWithFault("room for none", room, Edge.STATE, () -> room.feed(1, 2, 3, 4, 5));
        Edge.refusedWithFault("beyond all room", room, Edge.ARGUMENT, () -> room.end(65537));
        Check.due("all of it", room.end(65536), 65536);
        PatchStore none = withTape(65517);
        Edge.refusedWithFault("room for 19", none, Edge.STATE, () -> none.feed(1, 2, 3, 4, 5));
        none.end(20);
        Edge.tapeIs("its first bytes", none, Use.bytes("abcdefghijklmnopqrst"));
    }

    /** With THE TAPE of this length, more than 20: 3,276 calls, as there is no other way to fill it. */
    private static PatchStore withTape(int length) {
        PatchStore store = Edge.withProbe();
        for (int at = 0; at + 20 <= length; at += 20) {
            store.feed(0x61626364, 0x65666768, 0x696a6b6c, 0x6d6e6f70, 0x71727374);
        }
        store.end(length - 20);
        Check.due("feed", store.feed(0, 0, 0, 0, 0), length);
        return store;
    }

    /** "Only the first n bytes of THE TAPE stay"; "not 0 .. its length". */
    private static void end() {
        PatchStore store = new PatchStore();
        Check.due("0 of 0", store.end(0), 0);
        Check.due("1 of 0", Check.answer(() -> store.end(1)), Edge.ARGUMENT);
        Check.due("-1 of 0", Check.answer(() -> store.end(-1)), Edge.ARGUMENT);
        for (int n : new int[] {-1, 4, LOW, HIGH}) {
            refused("end(" + n + ") of 3", Edge.ARGUMENT, "abc", s -> s.end(n));
        }
        for (int n = 0; n <= 3; n++) {
            PatchStore cut = made();
            Use.tape(cut, "abc");
            Check.due("end", cut.end(n), n);
            Check.due("feed behind it", cut.feed(0x78780000, 0, 0, 0, 0), n + 20);
            cut.end(n + 2);
            Edge.tapeIs("the first " + n, cut, Use.bytes("abc".substring(0, n) + "xx"));
        }
    }

    /** "no such REPOSITORY", "the 4 bytes of salt", "if it is not there". */
    private static void add() {
        for (int repository : Edge.NO_REPOSITORIES) {
            refused("add to " + repository, Edge.ELEMENT, "n", s -> s.add(repository, 0));
            refused("add to " + repository + " of no NAME", Edge.ELEMENT, "n n", s -> s.add(repository, 0));
            refused("add to " + repository + " of nothing", Edge.ELEMENT, "", s -> s.add(repository, 0));
        }
        for (int repository : new int[] {0, 7}) {
            PatchStore store = made();
            Check.due("add", Use.add(store, repository, 9, "n"), 6);
            Check.due("it comes to that SET", store.has(repository, 6, 0), 1);
            Check.due("and to no other", store.has(1, 6, 0), 0);
            Check.due("THE TAPE is taken", store.count(0), 0);
        }
        PatchStore store = new PatchStore();
        int[] salts = {0, 1, -1, LOW, HIGH, 0x01020304};
        for (int i = 0; i < salts.length; i++) {
            Check.due("salt", Use.add(store, 0, salts[i], "n"), i);
            Check.due("its BYTES", Use.hex(Use.hash(store, i)),
                Use.hex(Model.sha(new PatchBytes().add(salts[i], "n").bytes())));
        }
        Check.due("once more", Use.add(store, 0, HIGH, "n"), 4);
        Check.due("THE TAPE is taken then, too", store.count(0), 0);
        Check.due("neither THE STOCK", store.count(1), 6);
        Check.due("nor the SET has it twice", store.about(0, 0), 6);
    }

    /** "NAMES (of files): 1 to 64 bytes, 33 .. 126"; "no NAME". */
    private static void addNames() {
        String body = "n".repeat(31);
        for (int value = 0; value < 256; value++) {
            boolean due = value >= 33 && value <= 126;
            for (String name : new String[] {"" + (char) value, (char) value + body, body + (char) value,
                    body + (char) value + body}) {
                PatchStore store = new PatchStore();
                Use.tape(store, name);
                Check.due("add with byte " + value, Check.answer(() -> store.add(0, 0)), due ? "0" : Edge.ARGUMENT);
                Check.due("THE TAPE", store.count(0), due ? 0 : name.length());
                Check.due("PATCHES", store.count(1) + store.about(0, 0), due ? 2 : 0);
            }
        }
        for (int length : new int[] {1, 2, 63, 64}) {
            PatchStore store = new PatchStore();
            String name = "~!".repeat(32).substring(0, length);
            Check.due("add of " + length, Use.add(store, 0, 0, name), 0);
            Check.due("its NAME", Use.name(store, 0, 0, 0), name);
        }
        for (int length : new int[] {0, 65, 66, 199}) {
            refused("add of " + length + " bytes", Edge.ARGUMENT, "n".repeat(length), s -> s.add(0, 0));
        }
        PatchStore store = new PatchStore();
        Use.tape(store, "n".repeat(65520));
        Check.due("add of all that THE TAPE holds", Check.answer(() -> store.add(0, 0)), Edge.ARGUMENT);
    }

    /** "no such REPOSITORY or FILE"; a FILE that is not THERE has no number. */
    private static void call() {
        for (int repository : Edge.NO_REPOSITORIES) {
            refused("call in " + repository, Edge.ELEMENT, "n", s -> s.call(repository, 0));
            refused("call in " + repository + " of no NAME", Edge.ELEMENT, " ", s -> s.call(repository, 0));
        }
        for (int k : new int[] {-1, 1, LOW, HIGH}) {
            refused("call of FILE " + k, Edge.ELEMENT, "n", s -> s.call(0, k));
            refused("call of FILE " + k + " without a NAME", Edge.ELEMENT, "", s -> s.call(0, k));
            refused("call of FILE " + k + " of no NAME", Edge.ELEMENT, "n ", s -> s.call(0, k));
        }
        refused("call in an empty SET", Edge.ELEMENT, "n", s -> s.call(3, 0));
        PatchStore store = made();
        store.end(0);
        Check.due("call with THE TAPE empty", store.call(0, 0), 6);
        Check.due("the FILE is not THERE", store.about(0, 1), 0);
        Check.due("where it is, it still is", store.about(1, 1), 1);
        Use.tape(store, "n");
        Edge.refusedWithFault("call of it", store, Edge.ELEMENT, () -> store.call(0, 0));
        Edge.tapeIs("call of it", store, Use.bytes("n"));
        Check.due("where it is THERE", Use.call(store, 1, 0, "n"), store.count(1) - 1);
        Check.due("THE TAPE is taken", store.count(0), 0);
        Check.due("one NAMING", Use.name(store, 1, 0, 0) + store.file(1, 0, 5), "n1");
    }

    /** "THE TAPE is a NAME, or empty"; "no NAME". */
    private static void callNames() {
        for (int value = 0; value < 256; value++) {
            boolean due = value >= 33 && value <= 126;
            for (String name : new String[] {"" + (char) value, (char) value + "n", "n" + (char) value}) {
                PatchStore store = new PatchStore();
                Use.add(store, 0, 0, "f");
                Use.tape(store, name);
                Check.due("call with byte " + value, Check.answer(() -> store.call(0, 0)), due ? "1" : Edge.ARGUMENT);
                Check.due("THE TAPE", store.count(0), due ? 0 : name.length());
                Check.due("its NAME", Use.name(store, 0, 0, 0), due ? name : "f");
            }
        }
        for (int length : new int[] {1, 64}) {
            PatchStore store = made();
            Check.due("call of " + length, Use.call(store, 0, 0, "~".repeat(length)), 6);
            Check.due("its NAME", Use.name(store, 0, 0, 0), "~".repeat(length));
        }
        for (int length : new int[] {65, 66, 199}) {
            refused("call of " + length + " bytes", Edge.ARGUMENT, "n".repeat(length), s -> s.call(0, 0));
        }
    }

    /** "it has more than 255 such NAMINGS"; "Of two exceptions the one that a call names first is thrown". */
    private static void callOrder() {
        for (int total : new int[] {254, 255, 256, 257}) {
            PatchStore store = Edge.withProbe();
            PatchBytes patch = new PatchBytes().add(0, "f");
            for (int i = 0; i < total; i++) {
                patch.call(PatchBytes.OWN, 0, "n" + i, PatchBytes.OWN, 0);
            }
            Use.read(store, 0, patch.bytes());
            Use.tape(store, "n n");
            Edge.refusedWithFault("no NAME is named first", store, Edge.ARGUMENT, () -> store.call(0, 0));
            Edge.refusedWithFault("no FILE is named first", store, Edge.ELEMENT, () -> store.call(0, 1));
            Edge.refusedWithFault("no REPOSITORY is named first", store, Edge.ELEMENT, () -> store.call(8, 0));
            store.end(1);
            if (total > 255) {
                Edge.refusedWithFault(total + " NAMINGS", store, Edge.STATE, () -> store.call(0, 0));
                Edge.tapeIs(total + " NAMINGS", store, Use.bytes("n"));
                Edge.refusedWithFault(total + " NAMINGS and no NAME for it", store, Edge.STATE, () -> store.call(0, 0));
            } else {
                Check.due(total + " NAMINGS", store.call(0, 0), 2);
                Check.due("all OVER", store.file(0, 0, 5), 1);
            }
        }
    }

    /** "no such REPOSITORY or FILE"; "-1 without one". */
    private static void record() {
        for (int repository : Edge.NO_REPOSITORIES) {
            refused("record in " + repository, Edge.ELEMENT, "t\n", s -> s.record(repository, 0));
        }
        for (int k : new int[] {-1, 1, LOW, HIGH}) {
            refused("record for FILE " + k, Edge.ELEMENT, "t\n", s -> s.record(0, k));
        }
        refused("record in an empty SET", Edge.ELEMENT, "t\n", s -> s.record(6, 0));
        PatchStore store = made();
        Use.call(store, 1, 0, "");
        Use.tape(store, "t\n");
        Edge.refusedWithFault("record for a FILE that is not THERE", store, Edge.ELEMENT, () -> store.record(1, 0));
        Edge.tapeIs("record for it", store, Use.bytes("t\n"));
        PatchStore same = made();
        Use.tape(same, "a\nb\n");
        String before = Snapshot.of(same).replaceFirst("count 4", "count 0");
        Check.due("the text that it has", same.record(0, 0), -1);
        Check.due("THE TAPE is taken", same.count(0), 0);
        Check.due("else all is as it was", Snapshot.difference(before, Snapshot.of(same)), "");
        Check.due("nothing for a FILE without LINES", Use.record(same, 2, 0, ""), -1);
        Check.due("nothing for a FILE with LINES", Use.record(same, 0, 0, ""), 6);
        Check.due("all of them are DEAD", same.file(0, 0, 4) * 10 + same.file(0, 0, 0), 20);
        Check.due("THE TAPE is taken", Use.record(same, 2, 0, "x") * 10 + same.count(0), 70);
    }

    /** "a LINE has more than 500 bytes": LF is one of them. */
    private static void recordLines() {
        String[] taken = {"x".repeat(500), "x".repeat(499) + "\n", "x".repeat(499) + "\n" + "y".repeat(500),
            "x".repeat(499) + "\n" + "y".repeat(499) + "\n", "\n", "x", "\n\n", "\n" + "x".repeat(500)};
        for (String text : taken) {
            PatchStore store = made();
            Check.due("a LINE of 500", Use.record(store, 2, 0, text), 6);
            Check.due("TEXT", Use.text(store, 2, 0), text);
            Check.due("bytes", store.file(2, 0, 1), text.length());
        }
        String[] wrong = {"x".repeat(501), "x".repeat(500) + "\n", "\n" + "x".repeat(501),
            "x".repeat(500) + "\ny\n", "y\n" + "x".repeat(500) + "\n"};
        for (String text : wrong) {
            refused("a LINE of 501", Edge.ARGUMENT, text, s -> s.record(2, 0));
            refused("a LINE of 501 for no FILE", Edge.ELEMENT, text, s -> s.record(2, 1));
            refused("a LINE of 501 in no REPOSITORY", Edge.ELEMENT, text, s -> s.record(8, 0));
        }
    }

    /** "OLD or NEW has more than 200 LINES", and what is named in front of it. */
    private static void recordOrder() {
        PatchStore store = made();
        Check.due("NEW has 200", Use.record(store, 2, 0, "\n".repeat(199) + "x"), 6);
        Check.due("LINES", store.file(2, 0, 0), 200);
        Check.due("OLD has 200", Use.record(store, 2, 0, "\n".repeat(199)), 7);
        for (String more : new String[] {"\n", "x"}) {
            String text = "\n".repeat(200) + more;
            refused("NEW has 201", Edge.UNSUPPORTED, text, s -> s.record(2, 0));
            refused("no FILE is named first", Edge.ELEMENT, text, s -> s.record(2, 1));
            refused("a LINE of 501 is named first", Edge.ARGUMENT, text + "x".repeat(501), s -> s.record(2, 0));
        }
        for (int total = 200; total <= 201; total++) {
            PatchStore old = Edge.withProbe();
            String[] lines = new String[total];
            java.util.Arrays.fill(lines, "x\n");
            PatchBytes patch = new PatchBytes().add(0, "f").insert(PatchBytes.OWN, 0, null, null, lines);
            Use.read(old, 0, patch.bytes());
            Use.tape(old, "y\n");
            if (total == 200) {
                Check.due("OLD has 200", old.record(0, 0), 2);
                Check.due("TEXT", Use.text(old, 0, 0), "y\n");
            } else {
                Edge.refusedWithFault("OLD has 201", old, Edge.UNSUPPORTED, () -> old.record(0, 0));
                Edge.tapeIs("OLD has 201", old, Use.bytes("y\n"));
                Use.tape(old, "x\n".repeat(201));
                Edge.refusedWithFault("both have 201", old, Edge.UNSUPPORTED, () -> old.record(0, 0));
                Use.tape(old, "x".repeat(501));
                Edge.refusedWithFault("a LINE of 501", old, Edge.ARGUMENT, () -> old.record(0, 0));
            }
        }
    }

    /** "no such REPOSITORY" is named before "it is no PATCH"; a refused read leaves THE TAPE. */
    private static void read() {
        byte[] good = new PatchBytes().add(3, "new").bytes();
        for (int repository : Edge.NO_REPOSITORIES) {
            for (byte[] bytes : new byte[][] {good, Use.raw(9), new byte[0]}) {
                PatchStore store = made();
                Use.tape(store, bytes);
                Edge.refused("read in " + repository, store, Edge.ELEMENT, () -> store.read(repository));
                Check.due("fault", store.fault(), 0);
                Edge.tapeIs("read in " + repository, store, bytes);
            }
        }
        for (int repository : new int[] {0, 7}) {
            PatchStore store = made();
            Check.due("read", Use.read(store, repository, good), 6);
            Check.due("it comes to that SET", store.has(repository, 6, 0), 1);
            Check.due("and to no other", store.has(1, 6, 0), 0);
            Check.due("THE TAPE is taken", store.count(0), 0);
            Check.due("once more", Use.read(store, repository, good), 6);
            Check.due("THE TAPE is taken", store.count(0), 0);
            Check.due("in another SET", Use.read(store, 5, good), 6);
            Check.due("THE STOCK has it once", store.count(1), 7);
        }
        byte[][] wrong = {Use.raw(0, 0, 0, 0), new PatchBytes().on(new byte[32]).add(0, "n").bytes(),
            new PatchBytes().delete(PatchBytes.OWN, 0, 0).bytes(), null};
        for (int fault = 1; fault <= 4; fault++) {
            PatchStore store = made();
            byte[] bytes = fault < 4 ? wrong[fault - 1] : new PatchBytes().on(Use.hash(store, 1)).add(0, "n").bytes();
            Use.tape(store, bytes);
            Edge.faulty("fault " + fault, store, 0, fault);
            Edge.faulty("the same again", store, 0, fault);
            Edge.tapeIs("fault " + fault, store, bytes);
        }
    }

    /** "The fault of the last read, if that threw IllegalArgumentException; 0 if it did not, or there was none". */
    private static void fault() {
        PatchStore store = made();
        Check.due("there was no read", store.fault(), 0);
        Check.due("add throws", Check.answer(() -> store.add(0, 0)), Edge.ARGUMENT);
        Check.due("that was no read", store.fault(), 0);
        Check.due("read of nothing", Check.answer(() -> store.read(0)), Edge.ARGUMENT);
        Check.due("fault", store.fault(), 1);
        Check.due("asked once more", store.fault(), 1);
        Use.tape(store, " ");
        Check.due("add throws", Check.answer(() -> store.add(0, 0)), Edge.ARGUMENT);
        Check.due("call throws", Check.answer(() -> store.call(0, 9)), Edge.ELEMENT);
        Check.due("show throws", Check.answer(() -> store.show(9)), Edge.ELEMENT);
        Use.add(store, 0, 7, "n");
        Use.record(store, 2, 0, "n");
        Use.call(store, 0, 0, "n");
        store.pull(3, 0, -1);
        store.show(2);
        Check.due("none of these was a read", store.fault(), 1);
        Check.due("a read of another fault", Check.answer(() -> store.read(4)), Edge.ARGUMENT);
        Check.due("fault", store.fault(), 2);
        Check.due("a read without one", store.read(0), 2);
        Check.due("fault", store.fault(), 0);
        Check.due("read of nothing", Check.answer(() -> store.read(0)), Edge.ARGUMENT);
        Check.due("read in no REPOSITORY", Check.answer(() -> store.read(8)), Edge.ELEMENT);
        Check.due("the last read threw something else", store.fault(), 0);
    }

    /** "no such PATCH"; "THE TAPE becomes the BYTES", whatever it was. The other edge is in StockEdgesTest. */
    private static void show() {
        for (int p : new int[] {-1, 6, LOW, HIGH}) {
            refused("show of " + p, Edge.ELEMENT, "tape", s -> s.show(p));
            refused("show of " + p, Edge.ELEMENT, "", s -> s.show(p));
        }
        for (int p : new int[] {0, 5}) {
            PatchStore store = made();
            byte[] due = new PatchBytes().add(p == 0 ? 0x70726f62 : 5, p == 0 ? "probe" : "x").bytes();
            Use.tape(store, "x".repeat(p == 0 ? 0 : 500));
            Check.due("show of " + p, store.show(p), due.length);
            Edge.tapeIs("show of " + p, store, due);
        }
    }

    /** "PATCH p, which from has"; "with p below 0: all that from has"; "how many were not there". */
    private static void pull() {
        for (int repository : Edge.NO_REPOSITORIES) {
            for (int p : new int[] {-1, 1, 99}) {
                refused("pull to " + repository, Edge.ELEMENT, "t", s -> s.pull(repository, 0, p));
                refused("pull from " + repository, Edge.ELEMENT, "t", s -> s.pull(0, repository, p));
                refused("pull within " + repository, Edge.ELEMENT, "t", s -> s.pull(repository, repository, p));
            }
        }
        for (int p : new int[] {0, 3, 5, 6, 499, 500, 511, 512, HIGH}) {
            refused("pull of " + p + ", which 1 has not", Edge.ELEMENT, "t", s -> s.pull(0, 1, p));
            refused("pull of " + p + " within 1", Edge.ELEMENT, "t", s -> s.pull(1, 1, p));
        }
        PatchStore store = made();
        Use.tape(store, "t");
        Check.due("PATCH 0", store.pull(6, 7, 0), 1);
        Check.due("the last one", store.pull(6, 2, 5), 1);
        Check.due("one with two that it LEANS on, which are not there", store.pull(5, 0, 2), 2);
        Check.due("one, the other is there", store.pull(5, 0, 4), 1);
        Check.due("none, all are there", store.pull(5, 0, 4), 0);
        Check.due("all", store.pull(4, 0, -1), 4);
        Check.due("all, by another number", store.pull(3, 0, LOW), 4);
        Check.due("all of which it has some", store.pull(1, 0, -2), 1);
        Check.due("all of an empty one", store.pull(2, 2, -1) + store.pull(2, 5, 1) * 10, 10);
        Check.due("to where it is from", store.pull(0, 0, -1) + store.pull(0, 0, 3), 0);
        Check.due("THE TAPE stays", store.count(0), 1);
        Check.due("from has what it had", store.about(0, 0), 4);
    }

    /** "it has no such PATCH"; "one of the SET has it among its DEPENDENCIES"; "how many are left". */
    private static void drop() {
        for (int repository : Edge.NO_REPOSITORIES) {
            refused("drop in " + repository, Edge.ELEMENT, "t", s -> s.drop(repository, 1));
        }
        for (int p : new int[] {-1, 0, 5, 6, 499, 500, 511, 512, LOW, HIGH}) {
            refused("drop of " + p + ", which 0 has not", Edge.ELEMENT, "t", s -> s.drop(0, p));
        }
        refused("drop of 1, which three are on", Edge.STATE, "t", s -> s.drop(0, 1));
        refused("drop of what another SET's PATCHES are on", Edge.ELEMENT, "t", s -> s.drop(7, 1));
        PatchStore store = made();
        Use.tape(store, "t");
        Check.due("drop", store.drop(0, 2), 3);
        Check.due("it is in the other SET", store.has(1, 2, 0), 1);
        Check.due("drop", store.drop(0, 4), 2);
        Edge.refusedWithFault("one is still on it", store, Edge.STATE, () -> store.drop(0, 1));
        Check.due("drop", store.drop(0, 3), 1);
        Check.due("none of this SET is on it now", store.drop(0, 1), 0);
        Edge.refusedWithFault("it is gone", store, Edge.ELEMENT, () -> store.drop(0, 1));
        Check.due("THE TAPE stays", store.count(0), 1);
    }

    /** "(of THE STOCK)"; "another what"; the SET may have the PATCH or not. */
    private static void has() {
        for (int repository : Edge.NO_REPOSITORIES) {
            refused("has in " + repository, Edge.ELEMENT, "t", s -> s.has(repository, 1, 0));
            refused("has in " + repository + " of what 3", Edge.ELEMENT, "t", s -> s.has(repository, 1, 3));
        }
        for (int p : new int[] {-1, 6, 499, 500, 512, LOW, HIGH}) {
            for (int what : new int[] {-1, 0, 1, 2, 3}) {
                refused("has " + p, Edge.ELEMENT, "t", s -> s.has(0, p, what));
            }
        }
        for (int what : new int[] {-1, 3, LOW, HIGH}) {
            refused("has of what " + what, Edge.ARGUMENT, "t", s -> s.has(0, 1, what));
            refused("has of what " + what, Edge.ARGUMENT, "t", s -> s.has(3, 5, what));
        }
        PatchStore store = made();
        int[][] due = {{0, 0, 0, 0}, {0, 1, 1, 3}, {0, 2, 1, 0}, {0, 5, 0, 0}, {1, 1, 1, 2}, {1, 3, 0, 0}, {3, 1, 0, 0}};
        int[] on = {0, 0, 1, 1, 1, 0};
        for (int[] row : due) {
            Check.due("the SET " + row[0] + " has " + row[1], store.has(row[0], row[1], 0), row[2]);
            Check.due("of " + row[0] + " LEAN on " + row[1], store.has(row[0], row[1], 1), row[3]);
            Check.due(row[1] + " LEANS on", store.has(row[0], row[1], 2), on[row[1]]);
        }
    }

    /** "Byte i, 0 .. 31, of the HASH"; "another i". */
    private static void hash() {
        for (int p : new int[] {-1, 6, LOW, HIGH}) {
            for (int i : new int[] {-1, 0, 32}) {
                refused("hash of " + p, Edge.ELEMENT, "t", s -> s.hash(p, i));
            }
        }
        for (int i : new int[] {-1, 32, LOW, HIGH}) {
            refused("hash at " + i, Edge.BOUNDS, "t", s -> s.hash(0, i));
            refused("hash at " + i, Edge.BOUNDS, "t", s -> s.hash(5, i));
        }
        byte[] due = Model.sha(new PatchBytes().add(5, "x").bytes());
        for (int i = 0; i < 32; i++) {
            Check.due("byte " + i, made().hash(5, i), due[i] & 255);
        }
    }

    /** "Byte i, 0 .. 31, of the SHA-256"; "another i". */
    private static void state() {
        for (int repository : Edge.NO_REPOSITORIES) {
            for (int i : new int[] {-1, 0, 32}) {
                refused("state of " + repository, Edge.ELEMENT, "t", s -> s.state(repository, i));
            }
        }
        for (int i : new int[] {-1, 32, LOW, HIGH}) {
            refused("state at " + i, Edge.BOUNDS, "t", s -> s.state(0, i));
            refused("state of an empty SET at " + i, Edge.BOUNDS, "t", s -> s.state(6, i));
        }
        PatchStore store = made();
        byte[] none = Model.sha(new byte[0]);
        byte[] one = Model.sha(Model.sha(new PatchBytes().add(5, "x").bytes()));
        for (int i = 0; i < 32; i++) {
            Check.due("of none, byte " + i, store.state(3, i), none[i] & 255);
            Check.due("of one, byte " + i, store.state(2, i), one[i] & 255);
        }
        store.drop(2, 5);
        Check.due("of none again", Use.hex(Use.state(store, 2)), Use.hex(none));
    }

    /** "another what". */
    private static void about() {
        for (int repository : Edge.NO_REPOSITORIES) {
            for (int what : new int[] {-1, 0, 3, 4}) {
                refused("about " + repository, Edge.ELEMENT, "t", s -> s.about(repository, what));
            }
        }
        for (int what : new int[] {-1, 4, LOW, HIGH}) {
            refused("about of what " + what, Edge.ARGUMENT, "t", s -> s.about(0, what));
            refused("about an empty SET", Edge.ARGUMENT, "t", s -> s.about(6, what));
        }
        int[][] due = {{4, 1, 1, 0}, {3, 1, 0, 0}, {1, 1, 0, 0}, {0, 0, 0, 0}};
        for (int repository = 0; repository < 4; repository++) {
            for (int what = 0; what < 4; what++) {
                Check.due("about(" + repository + ", " + what + ")", made().about(repository, what),
                    due[repository][what]);
            }
        }
    }

    /** "no such REPOSITORY or FILE"; "another what". */
    private static void file() {
        for (int repository : Edge.NO_REPOSITORIES) {
            for (int what : new int[] {-1, 0, 6, 7}) {
                refused("file of " + repository, Edge.ELEMENT, "t", s -> s.file(repository, 0, what));
            }
        }
        for (int k : new int[] {-1, 1, 199, 200, LOW, HIGH}) {
            for (int what : new int[] {-1, 0, 5, 6, 7}) {
                refused("FILE " + k, Edge.ELEMENT, "t", s -> s.file(0, k, what));
            }
        }
        for (int what : new int[] {-1, 7, LOW, HIGH}) {
            refused("file of what " + what, Edge.ARGUMENT, "t", s -> s.file(0, 0, what));
        }
        int[][] due = {{2, 4, 0, 0, 0, 2, 1}, {2, 4, 0, 0, 0, 1, 1}, {0, 0, 0, 0, 0, 1, 5}};
        for (int repository = 0; repository < 3; repository++) {
            for (int what = 0; what < 7; what++) {
                Check.due("file(" + repository + ", 0, " + what + ")", made().file(repository, 0, what),
                    due[repository][what]);
            }
        }
    }

    /** "Byte i ... from 0; at i -1: its length"; "no such REPOSITORY, FILE or NAMING", "no such byte". */
    private static void name() {
        for (int i : new int[] {-2, -1, 0, 9}) {
            for (int repository : Edge.NO_REPOSITORIES) {
                refused("name of " + repository, Edge.ELEMENT, "t", s -> s.name(repository, 0, 0, i));
            }
            for (int k : new int[] {-1, 1, LOW, HIGH}) {
                refused("name of FILE " + k, Edge.ELEMENT, "t", s -> s.name(0, k, 0, i));
            }
            for (int j : new int[] {-1, 2, LOW, HIGH}) {
                refused("name of NAMING " + j, Edge.ELEMENT, "t", s -> s.name(0, 0, j, i));
            }
            refused("NAMING 1 of one", Edge.ELEMENT, "t", s -> s.name(1, 0, 1, i));
        }
        for (int i : new int[] {-2, 2, 3, 64, 65, LOW, HIGH}) {
            refused("byte " + i + " of hh", Edge.BOUNDS, "t", s -> s.name(1, 0, 0, i));
        }
        refused("byte 1 of x", Edge.BOUNDS, "t", s -> s.name(2, 0, 0, 1));
        Check.due("its length", made().name(1, 0, 0, -1), 2);
        Check.due("the first byte", made().name(1, 0, 0, 0), 'h');
        Check.due("the last byte", made().name(1, 0, 0, 1), 'h');
        int lengths = made().name(0, 0, 0, -1) * made().name(0, 0, 1, -1);
        Check.due("the first and the last NAMING", lengths, 2);
    }

    /** "byte i; at -1 its length, -2 its PATCH, -3 the CHANGE of that, -4 the line of that"; "no such byte". */
    private static void line() {
        for (int i : new int[] {-5, -4, -1, 0, 9}) {
            for (int repository : Edge.NO_REPOSITORIES) {
                refused("line of " + repository, Edge.ELEMENT, "t", s -> s.line(repository, 0, 0, i));
            }
            for (int k : new int[] {-1, 1, LOW, HIGH}) {
                refused("line of FILE " + k, Edge.ELEMENT, "t", s -> s.line(0, k, 0, i));
            }
            for (int j : new int[] {-1, 2, 400, LOW, HIGH}) {
                refused("LINE " + j, Edge.ELEMENT, "t", s -> s.line(0, 0, j, i));
            }
            refused("LINE 0 of none", Edge.ELEMENT, "t", s -> s.line(2, 0, 0, i));
        }
        for (int i : new int[] {-5, 2, 3, 500, LOW, HIGH}) {
            refused("byte " + i + " of two", Edge.BOUNDS, "t", s -> s.line(0, 0, 0, i));
            refused("byte " + i + " of two", Edge.BOUNDS, "t", s -> s.line(0, 0, 1, i));
        }
        int[][] due = {{0, 0, 2, 2, 'a', 10}, {1, 0, 2, 2, 'b', 10}};
        for (int j = 0; j < 2; j++) {
            for (int i = -4; i < 2; i++) {
                Check.due("line(0, 0, " + j + ", " + i + ")", made().line(0, 0, j, i), due[j][i + 4]);
            }
        }
        PatchStore store = made();
        Use.record(store, 0, 0, "a\n");
        Edge.refusedWithFault("a DEAD LINE", store, Edge.ELEMENT, () -> store.line(0, 0, 1, 0));
        Check.due("where it is ALIVE", store.line(1, 0, 1, 0), 'b');
    }

    /** "Else -1". */
    private static void count() {
        PatchStore store = made();
        Use.tape(store, "tape");
        int bytes = 15 + 11 + (2 + 32 + 2 + 9 + 8) + (36 + 12) + (36 + 13) + 11;
        int[] due = {4, 6, 2, 3, bytes};
        for (int what = 0; what < 5; what++) {
            Check.due("count(" + what + ")", store.count(what), due[what]);
        }
        for (int what : new int[] {-1, 5, 6, LOW, HIGH}) {
            Check.due("count(" + what + ")", store.count(what), -1);
        }
    }

    /** THE TAPE is taken by add, call, record and read alone; what only asks changes nothing. */
    private static void otherCalls() {
        PatchStore store = made();
        Use.tape(store, "tape\n");
        String before = Snapshot.of(store);
        Check.due("asked twice", Snapshot.difference(before, Snapshot.of(store)), "");
        Check.due("fault", store.fault(), 0);
        Check.due("pull", store.pull(6, 0, -1), 4);
        Check.due("drop", store.drop(6, 2), 3);
        Edge.tapeIs("THE TAPE of other calls", store, Use.bytes("tape\n"));
    }
}
