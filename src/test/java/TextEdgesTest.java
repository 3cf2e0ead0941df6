import java.util.ArrayList;
import java.util.Arrays;
import java.util.List;

/**
 * REPOSITORIES and LEANS, FILES and NAMINGS that are THERE, GRAPH, TEXT, UNSURE and STRANDED, sentence by
 * sentence, where one names an edge.
 */
public final class TextEdgesTest {
    private static final int OWN = PatchBytes.OWN;

    public static void main(String[] args) {
        leans();
        namingThere();
        namingOverTwice();
        fileThere();
        filesByKey();
        namingsByKey();
        sharedNames();
        edgesOfInsert();
        edgesOfOrder();
        deadAndAlive();
        beforeOverDead();
        beforeOverDeadAmongMany();
        cycles();
        leastByKey();
        unsure();
        strandedByUpAndDown();
        strandedByWhom();
        strandedLeansFar();
        strandedLeantFar();
        strandedAmongMany();
        otherSets();
        Check.finish();
    }

    private static int[] own(int change, int line) {
        return PatchBytes.line(OWN, change, line);
    }

    /** A store whose SET 0 has this PATCH alone. */
    private static PatchStore of(PatchBytes patch) {
        PatchStore store = new PatchStore();
        Check.due("read", Use.read(store, 0, patch.bytes()), 0);
        return store;
    }

    private static void dueText(String what, PatchStore store, String text, int unsure) {
        Check.due(what + ": TEXT", Use.text(store, 0, 0), text);
        Check.due(what + ": UNSURE", store.file(0, 0, 2), unsure);
        Check.due(what + ": bytes", store.file(0, 0, 1), text.length());
    }

    /** "A PATCH LEANS on another one if that is among its DEPENDENCIES, or one of these LEANS on it". */
    private static void leans() {
        PatchStore store = new PatchStore();
        Use.add(store, 0, 0, "f");
        store.pull(1, 0, -1);
        Use.call(store, 0, 0, "left");
        Use.call(store, 1, 0, "right");
        store.pull(0, 1, -1);
        Use.call(store, 0, 0, "both");
        Use.call(store, 0, 0, "last");
        int[] on = {0, 1, 1, 3, 4};
        int[] by = {4, 2, 2, 1, 0};
        for (int p = 0; p < 5; p++) {
            Check.due(p + " LEANS on", store.has(0, p, 2), on[p]);
            Check.due("LEAN on " + p, store.has(0, p, 1), by[p]);
        }
        Check.due("of SET 1 LEAN on 0", store.has(1, 0, 1), 1);
        Check.due("of SET 1 LEAN on 2", store.has(1, 2, 1), 0);
        Check.due("pull of the last takes all, each once", store.pull(2, 0, 4), 5);
        Check.due("pull of 3 takes all but the last", store.pull(3, 0, 3), 4);
        for (int p = 0; p < 4; p++) {
            int patch = p;
            Edge.refused("drop of " + p, store, Edge.STATE, () -> store.drop(2, patch));
        }
        Check.due("drop of the last", store.drop(2, 4), 4);
        Edge.refused("on 2 there is 3 still", store, Edge.STATE, () -> store.drop(2, 2));
        Check.due("drop of 3", store.drop(2, 3), 3);
        Check.due("drop of 2, not of 1", store.drop(2, 2), 2);
        Edge.refused("on 0 there is 1 still", store, Edge.STATE, () -> store.drop(2, 0));
    }

    /** "a NAMING is THERE if its PATCH is in the SET and no CALL of the SET has it OVER". */
    private static void namingThere() {
        PatchStore store = new PatchStore();
        Use.add(store, 0, 0, "f");
        store.pull(1, 0, -1);
        int call = Use.call(store, 0, 0, "g");
        Check.due("OVER in the SET of the CALL", Use.name(store, 0, 0, 0) + store.file(0, 0, 5), "g1");
        Check.due("THERE in another one", Use.name(store, 1, 0, 0) + store.file(1, 0, 5), "f1");
        int next = Use.call(store, 0, 0, "f");
        Check.due("a new NAMING with the first NAME", Use.name(store, 0, 0, 0) + store.file(0, 0, 5), "f1");
        store.drop(0, next);
        Check.due("without it", Use.name(store, 0, 0, 0) + store.file(0, 0, 5), "g1");
        store.drop(0, call);
        Check.due("without both", Use.name(store, 0, 0, 0) + store.file(0, 0, 5), "f1");
        PatchStore one = of(new PatchBytes().add(0, "f").call(OWN, 0, "g", OWN, 0).call(OWN, 0, "h", OWN, 1));
        Check.due("OVER within its own PATCH", Use.name(one, 0, 0, 0) + one.file(0, 0, 5), "h1");
    }

    /** Two CALLS have one NAMING OVER: it is THERE only without both. */
    private static void namingOverTwice() {
        PatchStore store = new PatchStore();
        Use.add(store, 0, 0, "f");
        store.pull(1, 0, -1);
        int g = Use.call(store, 0, 0, "g");
        int h = Use.call(store, 1, 0, "h");
        store.pull(0, 1, -1);
        Check.due("two NAMINGS", store.file(0, 0, 5), 2);
        store.drop(0, g);
        Check.due("one is left", Use.name(store, 0, 0, 0) + store.file(0, 0, 5), "h1");
        store.drop(0, h);
        Check.due("none is left but the first", Use.name(store, 0, 0, 0) + store.file(0, 0, 5), "f1");
    }

    /** "a FILE is THERE if one of its NAMINGS is". */
    private static void fileThere() {
        PatchStore store = new PatchStore();
        Use.add(store, 0, 0, "f");
        Use.record(store, 0, 0, "a\n");
        store.pull(1, 0, -1);
        store.pull(2, 0, -1);
        int none = Use.call(store, 0, 0, "");
        Check.due("without a NAMING", store.about(0, 1), 0);
        Edge.refused("it has no number", store, Edge.ELEMENT, () -> store.file(0, 0, 0));
        int g = Use.call(store, 1, 0, "g");
        store.pull(0, 1, g);
        Check.due("with one from elsewhere", store.about(0, 1), 1);
        Check.due("its TEXT", Use.name(store, 0, 0, 0) + Use.text(store, 0, 0), "ga\n");
        store.drop(0, g);
        Check.due("without that", store.about(0, 1), 0);
        store.drop(0, none);
        Check.due("without the CALL", Use.name(store, 0, 0, 0) + Use.text(store, 0, 0), "fa\n");
        Use.call(store, 1, 0, "");
        store.pull(0, 1, -1);
        Check.due("a CALL of the last one without a NAME", store.about(0, 1), 0);
        Check.due("elsewhere", store.about(2, 1), 1);
        Check.due("the SET has its PATCHES all the same", store.about(0, 0), 4);
        Check.due("THE STOCK has the FILE", store.count(3), 1);
    }

    /** "FILES that are THERE are listed by KEY: the HASH of the ADD's PATCH, then the CHANGE's number". */
    private static void filesByKey() {
        PatchStore store = new PatchStore();
        for (int salt = 0; salt < 40; salt++) {
            PatchBytes patch = new PatchBytes();
            for (int i = 0; i < (salt == 7 ? 12 : 2); i++) {
                patch.add(salt, "n" + (90 - i));
            }
            Check.due("read", Use.read(store, 0, patch.bytes()), salt);
        }
        Check.due("FILES", store.about(0, 1), 90);
        int high = 0;
        int inOrder = 0;
        for (int k = 1; k < 90; k++) {
            int before = store.file(0, k - 1, 6);
            int here = store.file(0, k, 6);
            int order = Arrays.compareUnsigned(Use.hash(store, before), Use.hash(store, here));
            boolean isLater = order == 0 && Use.name(store, 0, k, 0).compareTo(Use.name(store, 0, k - 1, 0)) < 0;
            inOrder += order < 0 || isLater ? 1 : 0;
            high += store.hash(here, 0) > 127 ? 1 : 0;
        }
        Check.due("in order", inOrder, 89);
        Check.due("the test has HASHES on both sides of 128", high > 0 && high < 89 ? 1 : 0, 1);
        List<String> names = new ArrayList<>();
        for (int k = 0; k < 90; k++) {
            names.add(Use.name(store, 0, k, 0) + " " + store.file(0, k, 6));
        }
        Use.call(store, 0, 30, "");
        names.remove(30);
        for (int k = 0; k < 89; k++) {
            Check.due("without one of them", Use.name(store, 0, k, 0) + " " + store.file(0, k, 6), names.get(k));
        }
    }

    /** "their NAMINGS that are THERE, too": by KEY, whatever comes first. */
    private static void namingsByKey() {
        PatchBytes patch = new PatchBytes().add(0, "f").add(0, "g").call(OWN, 0, "h", OWN, 0);
        for (int i = 3; i < 300; i++) {
            patch.call(OWN, 0, "n" + i, OWN, 0);
        }
        PatchStore store = of(patch);
        Check.due("NAMINGS", store.file(0, 0, 5), 298);
        Check.due("the first", Use.name(store, 0, 0, 0), "h");
        for (int j = 1; j < 298; j++) {
            Check.due("by number", Use.name(store, 0, 0, j), "n" + (j + 2));
        }
        byte[] hash = Use.hash(store, 0);
        int[] seen = new int[2];
        for (int i = 0; i < 8; i++) {
            Use.read(store, 0, new PatchBytes().on(hash).call(0, 0, "later" + i, 0, 2).bytes());
            boolean isFirst = Arrays.compareUnsigned(Use.hash(store, i + 1), hash) < 0;
            seen[isFirst ? 0 : 1]++;
            int j = isFirst ? 0 : store.file(0, 0, 5) - 1;
            Check.due("by HASH", Use.name(store, 0, 0, j).startsWith("later") ? 1 : 0, 1);
        }
        Check.due("h is OVER", store.file(0, 0, 5), 297 + 8);
        Check.due("the test has HASHES on both sides", seen[0] > 0 && seen[1] > 0 ? 1 : 0, 1);
    }

    /** about 3: "with a NAME that another one of them has, too (by NAMINGS that are THERE)". */
    private static void sharedNames() {
        PatchStore own = of(new PatchBytes().add(0, "f").call(OWN, 0, "g", OWN, 0).call(OWN, 0, "g", OWN, 0));
        Check.due("one FILE has a NAME twice", own.about(0, 3) * 10 + own.about(0, 2), 1);
        PatchStore store = new PatchStore();
        Use.read(store, 0, new PatchBytes().add(0, "f").add(1, "f").add(2, "g").add(3, "ff").bytes());
        Check.due("two of four", store.about(0, 3), 2);
        Use.call(store, 0, 1, "g");
        Check.due("another two", store.about(0, 3), 2);
        Use.call(store, 0, 2, "");
        Check.due("the other one is not THERE", store.about(0, 3), 0);
        Check.due("FILES", store.about(0, 1), 3);
        store.pull(1, 0, 0);
        Use.call(store, 1, 0, "g");
        Use.call(store, 0, 0, "ff");
        Check.due("two again", store.about(0, 3), 2);
        store.pull(0, 1, -1);
        Check.due("two by two NAMES", store.about(0, 3), 3);
        Check.due("one has two NAMINGS", store.about(0, 2), 1);
    }

    /** GRAPH: "from UP to its first LINE, from each of its LINES to the next, from the last to DOWN". */
    private static void edgesOfInsert() {
        PatchBytes base = new PatchBytes().add(0, "f").insert(OWN, 0, null, null, "a", "b", "c");
        dueText("one INSERT", of(base), "abc", 0);
        dueText("UP and DOWN", of(base().insert(OWN, 0, own(1, 0), own(1, 1), "x", "y")), "axybc", 0);
        dueText("DOWN alone", of(base().insert(OWN, 0, null, own(1, 0), "x", "y")), "xyabc", 0);
        dueText("UP alone, the last", of(base().insert(OWN, 0, own(1, 2), null, "x", "y")), "abcxy", 0);
        dueText("UP alone, another", of(base().insert(OWN, 0, own(1, 0), null, "x", "y")), "abcxy", 2);
        dueText("neither", of(base().insert(OWN, 0, null, null, "x", "y")), "abcxy", 3);
        dueText("DOWN alone, the last", of(base().insert(OWN, 0, null, own(1, 2), "x", "y")), "abxyc", 2);
        dueText("at the same place twice", of(base().insert(OWN, 0, own(1, 0), own(1, 1), "x")
            .insert(OWN, 0, own(1, 0), own(1, 1), "y")), "axybc", 1);
        dueText("within an INSERT of the same PATCH", of(base().insert(OWN, 0, own(1, 0), own(1, 1), "x", "y")
            .insert(OWN, 0, own(2, 0), own(2, 1), "z")), "axzybc", 0);
    }

    private static PatchBytes base() {
        return new PatchBytes().add(0, "f").insert(OWN, 0, null, null, "a", "b", "c");
    }

    /** GRAPH: "of each ORDER of the SET from the first to the second". */
    private static void edgesOfOrder() {
        PatchBytes three = three();
        dueText("three alone", of(three), "abc", 2);
        dueText("c first", of(three().order(own(3, 0), own(1, 0))), "bca", 1);
        dueText("c first of all", of(three().order(own(3, 0), own(1, 0)).order(own(3, 0), own(2, 0))), "cab", 1);
        dueText("a chain", of(three().order(own(3, 0), own(2, 0)).order(own(2, 0), own(1, 0))), "cba", 0);
        dueText("the same twice", of(three().order(own(2, 0), own(1, 0)).order(own(2, 0), own(1, 0))), "bac", 2);
        PatchStore store = of(three());
        PatchBytes later = new PatchBytes().on(Use.hash(store, 0))
            .order(PatchBytes.line(0, 3, 0), PatchBytes.line(0, 1, 0));
        Use.read(store, 0, later.bytes());
        dueText("by another PATCH", store, "bca", 1);
        store.drop(0, 1);
        dueText("which goes from the SET", store, "abc", 2);
    }

    private static PatchBytes three() {
        return new PatchBytes().add(0, "f").insert(OWN, 0, null, null, "a").insert(OWN, 0, null, null, "b")
            .insert(OWN, 0, null, null, "c");
    }

    /** "A LINE is DEAD if a DELETE of the SET names it, else ALIVE". */
    private static void deadAndAlive() {
        PatchStore store = of(base());
        store.pull(1, 0, -1);
        byte[] hash = Use.hash(store, 0);
        int b = Use.read(store, 0, new PatchBytes().on(hash).delete(0, 1, 1).bytes());
        int bc = Use.read(store, 0, new PatchBytes().on(hash).delete(0, 1, 1).delete(0, 1, 2).delete(0, 1, 2).bytes());
        dueText("two DELETES", store, "a", 0);
        Check.due("each DEAD once", store.file(0, 0, 4), 2);
        Check.due("the other SET", Use.text(store, 1, 0) + store.file(1, 0, 4), "abc0");
        store.drop(0, b);
        dueText("one of the two is left", store, "a", 0);
        store.drop(0, bc);
        dueText("none is left", store, "abc", 0);
        Check.due("none is DEAD", store.file(0, 0, 4), 0);
        PatchStore all = of(base().delete(OWN, 1, 0).delete(OWN, 1, 1).delete(OWN, 1, 2));
        dueText("all DEAD", all, "", 0);
        Check.due("LINES", all.file(0, 0, 0) * 10 + all.file(0, 0, 4), 3);
        Check.due("the FILE is THERE", all.about(0, 1), 1);
    }

    /** "a is BEFORE b if a way of one or more edges leads from a to b (over whatever LINES)". */
    private static void beforeOverDead() {
        PatchBytes far = new PatchBytes().add(0, "f").insert(OWN, 0, null, null, "z").insert(OWN, 0, null, null, "a", "b")
            .insert(OWN, 0, own(2, 1), own(1, 0), "c", "d");
        dueText("all ALIVE", of(far), "abcdz", 0);
        dueText("the midst is DEAD", of(far.delete(OWN, 2, 1).delete(OWN, 3, 0).delete(OWN, 3, 1)), "az", 0);
        dueText("not both ways", of(new PatchBytes().add(0, "f").insert(OWN, 0, null, null, "a", "b")
            .delete(OWN, 1, 0)), "b", 0);
        PatchBytes cycle = three().order(own(2, 0), own(1, 0)).order(own(1, 0), own(3, 0)).order(own(3, 0), own(2, 0));
        dueText("a cycle", of(cycle), "abc", 2);
        dueText("a cycle over a DEAD LINE", of(cycle.delete(OWN, 3, 0)), "ab", 1);
    }

    /** The same with so many LINES: the last one by KEY hangs on the others by a DEAD one alone. */
    private static void beforeOverDeadAmongMany() {
        for (int total = 3; total <= 400; total++) {
            String[] lines = new String[total - 1];
            StringBuilder row = new StringBuilder();
            for (int i = 0; i < lines.length; i++) {
                lines[i] = (char) (33 + i % 90) + "";
                row.append(lines[i]);
            }
            PatchBytes behind = new PatchBytes().add(0, "f").insert(OWN, 0, null, null, lines)
                .insert(OWN, 0, own(1, total - 2), null, "\n").delete(OWN, 1, total - 2);
            dueText(total + " LINES", of(behind), row.substring(0, total - 2) + "\n", 0);
            PatchBytes front = new PatchBytes().add(0, "f").insert(OWN, 0, null, null, lines)
                .insert(OWN, 0, null, own(1, 0), "\n").delete(OWN, 1, 0);
            dueText(total + " LINES", of(front), "\n" + row.substring(1), 0);
        }
    }

    /** "(a before b and b before a: neither counts for the other)". */
    private static void cycles() {
        PatchBytes two = three().order(own(2, 0), own(3, 0)).order(own(3, 0), own(2, 0));
        dueText("b and c, beside a", of(two), "abc", 2);
        dueText("b and c, then a", of(three().order(own(2, 0), own(3, 0)).order(own(3, 0), own(2, 0))
            .order(own(3, 0), own(1, 0))), "bca", 1);
        dueText("c, then a and b", of(three().order(own(1, 0), own(2, 0)).order(own(2, 0), own(1, 0))
            .order(own(3, 0), own(2, 0))), "cab", 1);
        dueText("INSERT turned round", of(new PatchBytes().add(0, "f").insert(OWN, 0, null, null, "a", "b", "c")
            .order(own(1, 2), own(1, 0))), "abc", 2);
        dueText("UP and DOWN the same LINE", of(base().insert(OWN, 0, own(1, 1), own(1, 1), "x")), "abxc", 1);
        dueText("DOWN above UP", of(base().insert(OWN, 0, own(1, 1), own(1, 0), "x")), "abxc", 2);
    }

    /** "the least FREE one by KEY (the HASH of its PATCH, the CHANGE's number, the line's number)". */
    private static void leastByKey() {
        PatchBytes many = new PatchBytes().add(0, "f");
        StringBuilder due = new StringBuilder();
        for (int i = 1; i <= 300; i++) {
            many.insert(OWN, 0, null, null, (char) (33 + i % 90) + "");
            due.append((char) (33 + i % 90));
        }
        dueText("300 CHANGES by number", of(many), due.toString(), 299);
        String[] lines = new String[300];
        for (int i = 0; i < 300; i++) {
            lines[i] = due.substring(i, i + 1);
        }
        PatchBytes ring = new PatchBytes().add(0, "f").insert(OWN, 0, null, null, lines).order(own(1, 299), own(1, 0));
        dueText("300 LINES of a ring by number", of(ring), due.toString(), 299);
        PatchStore store = of(new PatchBytes().add(0, "f"));
        byte[] add = Use.hash(store, 0);
        List<byte[]> hashes = new ArrayList<>();
        for (int i = 1; i <= 30; i++) {
            Use.read(store, 0, new PatchBytes().on(add).insert(0, 0, null, null, "x" + i).bytes());
            hashes.add(Use.hash(store, i));
        }
        hashes.sort(Arrays::compareUnsigned);
        for (int j = 0; j < 30; j++) {
            Check.due("30 PATCHES by HASH", Use.hex(Use.hash(store, store.line(0, 0, j, -2))), Use.hex(hashes.get(j)));
        }
        Check.due("HASHES on both sides of 128", hashes.get(0)[0] >= 0 && hashes.get(29)[0] < 0 ? 1 : 0, 1);
        Check.due("UNSURE", store.file(0, 0, 2), 29);
    }

    /** "UNSURE: at how many of these steps there was more than one FREE". */
    private static void unsure() {
        PatchStore none = of(new PatchBytes().add(0, "f"));
        dueText("no LINES", none, "", 0);
        dueText("one LINE", of(new PatchBytes().add(0, "f").insert(OWN, 0, null, null, "a")), "a", 0);
        dueText("two", of(new PatchBytes().add(0, "f").insert(OWN, 0, null, null, "a").insert(OWN, 0, null, null, "b")),
            "ab", 1);
        dueText("three", of(three()), "abc", 2);
        dueText("DEAD ones do not count", of(three().delete(OWN, 2, 0)), "ac", 1);
        dueText("one is left ALIVE", of(three().delete(OWN, 2, 0).delete(OWN, 1, 0)), "c", 0);
        dueText("two at two places", of(base().insert(OWN, 0, own(1, 0), own(1, 1), "x")
            .insert(OWN, 0, own(1, 0), own(1, 1), "y").insert(OWN, 0, own(1, 1), own(1, 2), "z")
            .insert(OWN, 0, own(1, 1), own(1, 2), "w")), "axybzwc", 2);
    }

    /** Reads a PATCH in SET 1, whose INSERT has this UP and DOWN of PATCH 0, and answers how many are STRANDED. */
    private static int strandedWith(int[] up, int[] down, int... deleted) {
        PatchStore store = of(base());
        store.pull(1, 0, -1);
        byte[] hash = Use.hash(store, 0);
        PatchBytes deletes = new PatchBytes().on(hash);
        for (int line : deleted) {
            deletes.delete(0, 1, line);
        }
        Use.read(store, 0, deletes.bytes());
        Use.read(store, 1, new PatchBytes().on(hash).insert(0, 0, up, down, "x", "y", "z").bytes());
        Check.due("without the DELETE", store.file(1, 0, 3), 0);
        store.pull(1, 0, -1);
        Check.due("the LINES that are DEAD are not STRANDED", store.file(1, 0, 4), deleted.length);
        return store.file(1, 0, 3);
    }

    /** "an ALIVE LINE whose INSERT has an UP or DOWN that a PATCH of the SET deletes". */
    private static void strandedByUpAndDown() {
        int[] a = PatchBytes.line(0, 1, 0);
        int[] b = PatchBytes.line(0, 1, 1);
        Check.due("UP deleted: all LINES of the INSERT", strandedWith(a, b, 0), 3);
        Check.due("DOWN deleted", strandedWith(a, b, 1), 3);
        Check.due("both deleted: each LINE once", strandedWith(a, b, 0, 1), 3);
        Check.due("another deleted", strandedWith(a, b, 2), 0);
        Check.due("UP alone", strandedWith(a, null, 0), 3);
        Check.due("UP alone, another deleted", strandedWith(a, null, 1), 0);
        Check.due("DOWN alone", strandedWith(null, b, 1), 3);
        Check.due("DOWN alone, another deleted", strandedWith(null, b, 0), 0);
        Check.due("TOP and none", strandedWith(null, null, 0, 1, 2), 0);
        PatchStore store = of(base());
        store.pull(1, 0, -1);
        byte[] hash = Use.hash(store, 0);
        Use.read(store, 0, new PatchBytes().on(hash).delete(0, 1, 0).bytes());
        Use.read(store, 1, new PatchBytes().on(hash).insert(0, 0, a, b, "x", "y", "z").delete(OWN, 0, 1).bytes());
        store.pull(1, 0, -1);
        Check.due("ALIVE ones alone", store.file(1, 0, 3), 2);
        store.drop(1, 1);
        Check.due("the DELETE goes from the SET", store.file(1, 0, 3), 0);
    }

    /** "of which neither LEANS on the other nor is it the same". */
    private static void strandedByWhom() {
        int[] a = PatchBytes.line(0, 1, 0);
        PatchStore store = of(base());
        byte[] hash = Use.hash(store, 0);
        int same = Use.read(store, 0, new PatchBytes().on(hash).insert(0, 0, a, null, "x").delete(0, 1, 0).bytes());
        Check.due("the same PATCH", store.file(0, 0, 3), 0);
        store.pull(1, 0, 0);
        int other = Use.read(store, 1, new PatchBytes().on(hash).delete(0, 1, 0).bytes());
        store.pull(0, 1, other);
        Check.due("the same and another one", store.file(0, 0, 3), 1);
        store.drop(0, other);
        Check.due("without that", store.file(0, 0, 3), 0);
        store.drop(0, same);
        int insert = Use.read(store, 0, new PatchBytes().on(hash).insert(0, 0, a, null, "y").bytes());
        PatchBytes deleter = new PatchBytes().on(hash, Use.hash(store, insert));
        int p = deleter.place(hash);
        Use.read(store, 0, deleter.delete(p, 1, 0).delete(1 - p, 0, 0).insert(p, 0, null, null, "z").bytes());
        Check.due("it is DEAD itself", store.file(0, 0, 3) * 10 + store.file(0, 0, 4), 2);
        PatchStore leans = of(base());
        Use.read(leans, 0, new PatchBytes().on(hash).insert(0, 0, a, null, "y", "z").bytes());
        PatchBytes on = new PatchBytes().on(hash, Use.hash(leans, 1));
        p = on.place(hash);
        Use.read(leans, 0, on.delete(p, 1, 0).delete(1 - p, 0, 0).bytes());
        Check.due("the DELETE's PATCH LEANS on the INSERT's", leans.file(0, 0, 3), 0);
        Check.due("TEXT", Use.text(leans, 0, 0).length(), 3);
    }

    /** LEANS over another PATCH: the one that deletes on the one that inserts. */
    private static void strandedLeansFar() {
        int[] a = PatchBytes.line(0, 1, 0);
        PatchStore store = of(base());
        byte[] zero = Use.hash(store, 0);
        Use.read(store, 0, new PatchBytes().on(zero).insert(0, 0, a, null, "x").bytes());
        byte[] one = Use.hash(store, 1);
        PatchBytes between = new PatchBytes().on(zero, one);
        int[] x = PatchBytes.line(between.place(one), 0, 0);
        Use.read(store, 0, between.insert(between.place(zero), 0, x, null, "y").bytes());
        byte[] two = Use.hash(store, 2);
        PatchBytes far = new PatchBytes().on(zero, two);
        far.delete(far.place(zero), 1, 0).delete(far.place(two), 0, 0);
        int deleter = Use.read(store, 0, far.bytes());
        Check.due("it LEANS on all", store.has(0, deleter, 2), 3);
        Check.due("by way of another", store.file(0, 0, 3), 0);
        store.drop(0, deleter);
        Use.read(store, 0, new PatchBytes().on(zero).delete(0, 1, 0).bytes());
        Check.due("one that does not", store.file(0, 0, 3), 1);
    }

    /** The other way round: the one that inserts on the one that deletes. */
    private static void strandedLeantFar() {
        PatchStore store = of(base());
        byte[] zero = Use.hash(store, 0);
        Use.read(store, 0, new PatchBytes().on(zero).delete(0, 1, 0).add(0, "n").bytes());
        Use.read(store, 0, new PatchBytes().on(Use.hash(store, 1)).insert(0, 1, null, null, "q").bytes());
        byte[] two = Use.hash(store, 2);
        PatchBytes insert = new PatchBytes().on(zero, two);
        int z = insert.place(zero);
        insert.insert(z, 0, PatchBytes.line(z, 1, 0), null, "x").delete(insert.place(two), 0, 0);
        int last = Use.read(store, 0, insert.bytes());
        Check.due("it LEANS on all", store.has(0, last, 2), 3);
        Check.due("by way of another", store.file(0, Use.fileOf(store, 0, 0), 3), 0);
        store.drop(0, last);
        Use.read(store, 0, new PatchBytes().on(zero).insert(0, 0, PatchBytes.line(0, 1, 0), null, "x").bytes());
        Check.due("one that does not", store.file(0, Use.fileOf(store, 0, 0), 3), 1);
    }

    /** The same with PATCHES of higher numbers: so many others come between. */
    private static void strandedAmongMany() {
        int[] a = PatchBytes.line(0, 1, 0);
        for (int others : new int[] {0, 30, 40, 62, 63, 70, 130, 260, 480}) {
            PatchStore store = of(base());
            byte[] hash = Use.hash(store, 0);
            store.pull(7, 0, 0);
            for (int i = 0; i < others; i++) {
                Use.call(store, 7, 0, "n" + i);
            }
            int same = Use.read(store, 0, new PatchBytes().on(hash).insert(0, 0, a, null, "x").delete(0, 1, 0).bytes());
            Check.due("the PATCH's number", same, others + 1);
            Check.due("the same PATCH", store.file(0, 0, 3), 0);
            int other = Use.read(store, 0, new PatchBytes().on(hash).delete(0, 1, 0).bytes());
            Check.due("another one", store.file(0, 0, 3), 1);
            store.drop(0, same);
            int insert = Use.read(store, 0, new PatchBytes().on(hash).insert(0, 0, a, null, "y", "z").bytes());
            Check.due("the other one alone", store.file(0, 0, 3), 2);
            store.drop(0, other);
            PatchBytes on = new PatchBytes().on(hash, Use.hash(store, insert));
            int p = on.place(hash);
            Use.read(store, 0, on.delete(p, 1, 0).delete(1 - p, 0, 1).bytes());
            Check.due("one that LEANS on the INSERT", store.file(0, 0, 3), 0);
            Check.due("DEAD", store.file(0, 0, 4), 2);
        }
    }

    /** "two repositories with the same patches have the same texts": in whatever order they came. */
    private static void otherSets() {
        PatchStore store = of(base());
        byte[] hash = Use.hash(store, 0);
        for (int i = 0; i < 6; i++) {
            PatchBytes patch = new PatchBytes().on(hash);
            int[] up = PatchBytes.line(0, 1, i % 3);
            Use.read(store, 0, (i < 4 ? patch.insert(0, 0, up, null, "n" + i) : patch.delete(0, 1, i - 4)).bytes());
        }
        for (int p = 6; p >= 0; p--) {
            store.pull(1, 0, p);
        }
        for (int p : new int[] {3, 1, 5, 0, 2, 6, 4}) {
            store.pull(2, 0, p);
        }
        for (int repository = 1; repository < 3; repository++) {
            Check.due("state", Use.hex(Use.state(store, repository)), Use.hex(Use.state(store, 0)));
            Check.due("TEXT", Use.text(store, repository, 0), Use.text(store, 0, 0));
            for (int what = 0; what < 7; what++) {
                Check.due("file " + what, store.file(repository, 0, what), store.file(0, 0, what));
            }
        }
        Check.due("STRANDED", store.file(0, 0, 3), 3);
    }
}
