import java.util.Arrays;

/**
 * PATCH and its BYTES, REFS and CHANGES, sentence by sentence, as read takes and refuses them: on both sides of
 * each edge, with the fault that is due, and with all left as it was where it is refused.
 */
public final class BytesEdgesTest {
    private static final int OWN = PatchBytes.OWN;

    public static void main(String[] args) {
        numberOfDependencies();
        manyDependencies();
        risingHashes();
        numberOfChanges();
        cutAndLengthened();
        kindsOfChange();
        addNames();
        callNames();
        callNamings();
        upAndDown();
        numberOfLines();
        lengthOfLines();
        lfInLines();
        refsOfFiles();
        refsOfNamings();
        refsOfLines();
        changesBeyond();
        orders();
        ownRefs();
        dependenciesInSet();
        namedDependencies();
        knownBytes();
        orderOfFaults();
        Check.finish();
    }

    /**
     * PATCHES: 0 the probe's; 1 ADDS f and g; 2 has LINES a, b of f and c of g; 3 calls f h, 4 gives f no NAME;
     * 5 deletes a and orders b in front of a. SET 0 has 1 to 5.
     */
    private static PatchStore made() {
        PatchStore store = Edge.withProbe();
        Use.read(store, 0, new PatchBytes().add(0, "f").add(0, "g").bytes());
        byte[] one = Use.hash(store, 1);
        Use.read(store, 0, new PatchBytes().on(one).insert(0, 0, null, null, "a\n", "b\n")
            .insert(0, 1, null, null, "c\n").bytes());
        Use.read(store, 0, new PatchBytes().on(one).call(0, 0, "h", 0, 0).bytes());
        Use.read(store, 0, new PatchBytes().on(one).call(0, 0, "", 0, 0).bytes());
        Use.read(store, 0, new PatchBytes().on(Use.hash(store, 2)).delete(0, 0, 0)
            .order(PatchBytes.line(0, 0, 1), PatchBytes.line(0, 0, 0)).bytes());
        return store;
    }

    private static void due(String what, int fault, byte[] bytes) {
        due(what, fault, made(), bytes);
    }

    /** Fault 0: it is taken as a new PATCH. The store is not to be used any more. */
    private static void due(String what, int fault, PatchStore store, byte[] bytes) {
        Use.tape(store, bytes);
        if (fault != 0) {
            Edge.faulty(what, store, 0, fault);
            Edge.tapeIs(what, store, bytes);
            return;
        }
        int patches = store.count(1);
        Check.due(what, Check.answer(() -> store.read(0)), Integer.toString(patches));
        Check.due(what + ": fault", store.fault(), 0);
        Check.due(what + ": THE TAPE", store.count(0), 0);
        Check.due(what + ": PATCHES", store.count(1), patches + 1);
        Check.due(what + ": in the SET", store.has(0, patches, 0), 1);
        Check.due(what + ": HASH", Use.hex(Use.hash(store, patches)), Use.hex(Model.sha(bytes)));
    }

    /** An ADD as CHANGE 0, then what follows. */
    private static PatchBytes own() {
        return new PatchBytes().add(9, "own");
    }

    /** "2 bytes: number of DEPENDENCIES, 32 bytes each". */
    private static void numberOfDependencies() {
        PatchStore store = made();
        byte[] one = Use.hash(store, 1);
        byte[] good = new PatchBytes().on(one).call(0, 0, "x", 0, 0).bytes();
        due("one", 0, good);
        for (int said : new int[] {0, 2, 3, 255, 256, 65535}) {
            byte[] wrong = good.clone();
            wrong[0] = (byte) (said >> 8);
            wrong[1] = (byte) said;
            due(said + " said, one there", 1, wrong);
        }
        due("none", 0, own().bytes());
        due("nothing", 1, new byte[0]);
        due("half a number", 1, Use.raw(0));
        due("a number alone", 1, Use.raw(0, 0));
        due("a number and a HASH alone", 1, Use.join(Use.raw(0, 1), one));
        due("and half a number more", 1, Use.join(Use.raw(0, 1), one, Use.raw(0)));
    }

    /** "Numbers in PATCHES have their highest byte first": 257 DEPENDENCIES, and REFS of each. */
    private static void manyDependencies() {
        PatchStore store = new PatchStore();
        Use.read(store, 0, new PatchBytes().add(0, "f").bytes());
        byte[][] hashes = new byte[257][];
        hashes[0] = Use.hash(store, 0);
        for (int i = 1; i < 257; i++) {
            Use.read(store, 0, new PatchBytes().on(hashes[0]).call(0, 0, "n" + i, 0, 0).bytes());
            hashes[i] = Use.hash(store, i);
        }
        PatchBytes patch = new PatchBytes().on(hashes);
        int f = patch.place(hashes[0]);
        int[] namings = new int[2 * 255];
        for (int i = 0; i < 255; i++) {
            namings[2 * i] = i;
        }
        patch.call(f, 0, "x", namings);
        Use.tape(store, patch.bytes());
        Edge.faulty("two are not named", store, 0, 4);
        patch.call(f, 0, "y", 255, 0, 256, 0);
        byte[] good = patch.bytes();
        Use.tape(store, patch.call(f, 0, "z", 257, 0).bytes());
        Edge.faulty("DEPENDENCY 257 of 257", store, 0, 3);
        Check.due("257 DEPENDENCIES", Use.read(store, 0, good), 257);
        Check.due("it LEANS on", store.has(0, 257, 2), 257);
        Check.due("all others are OVER", store.file(0, 0, 5), 2);
    }

    /** "rising (byte by byte, 0 .. 255), none twice". */
    private static void risingHashes() {
        for (int at : new int[] {0, 1, 15, 30, 31}) {
            for (int[] pair : new int[][] {{0, 1}, {1, 2}, {127, 128}, {0, 255}, {128, 255}, {254, 255}}) {
                byte[] low = new byte[32];
                byte[] high = new byte[32];
                Arrays.fill(high, at + 1, 32, (byte) 0);
                Arrays.fill(low, at + 1, 32, (byte) 255);
                low[at] = (byte) pair[0];
                high[at] = (byte) pair[1];
                due("rising at " + at, 2, new PatchBytes().onAsGiven(low, high).add(0, "n").bytes());
                due("falling at " + at, 1, new PatchBytes().onAsGiven(high, low).add(0, "n").bytes());
                due("twice", 1, new PatchBytes().onAsGiven(high, high).add(0, "n").bytes());
            }
        }
        byte[][] three = {new byte[32], new byte[32], new byte[32]};
        for (int i = 0; i < 3; i++) {
            three[i][5] = (byte) (100 * i);
        }
        due("three", 2, new PatchBytes().onAsGiven(three[0], three[1], three[2]).add(0, "n").bytes());
        due("the last twice", 1, new PatchBytes().onAsGiven(three[0], three[1], three[1]).add(0, "n").bytes());
        due("the last falls", 1, new PatchBytes().onAsGiven(three[0], three[2], three[1]).add(0, "n").bytes());
        due("the last is the first", 1, new PatchBytes().onAsGiven(three[0], three[2], three[0]).add(0, "n").bytes());
        PatchStore store = made();
        byte[] one = Use.hash(store, 1);
        PatchBytes twice = new PatchBytes().onAsGiven(one, one).call(0, 0, "x", 1, 0);
        due("a PATCH of the SET twice", 1, twice.bytes());
    }

    /** "number of CHANGES, 1 or more; these". */
    private static void numberOfChanges() {
        due("none", 1, Use.raw(0, 0, 0, 0));
        due("none said, one there", 1, own().bytes(0));
        due("one", 0, own().bytes());
        due("two said, one there", 1, own().bytes(2));
        due("one said, two there", 1, own().add(0, "n").bytes(1));
        due("256 said, one there", 1, own().bytes(256));
        due("65,535 said, one there", 1, own().bytes(65535));
        for (int total : new int[] {255, 256, 257, 300}) {
            PatchBytes patch = own().insert(OWN, 0, null, null, "x", "y");
            for (int i = 2; i < total - 2; i++) {
                patch.delete(OWN, 1, 0);
            }
            patch.insert(OWN, 0, null, null, "z").delete(OWN, total - 2, 0);
            PatchStore store = made();
            due(total + " CHANGES", 0, store, patch.bytes());
            Check.due("the last but one is what the last deletes", Use.text(store, 0, Use.fileOf(store, 0, 6)), "y");
            due(total + " CHANGES, one more said", 1, patch.bytes(total + 1));
            due(total + " CHANGES, one less said", 1, patch.bytes(total - 1));
        }
    }

    /** "the BYTES are not of that form, or have more behind": a PATCH with each kind of CHANGE. */
    private static void cutAndLengthened() {
        PatchStore store = made();
        byte[] one = Use.hash(store, 1);
        byte[] two = Use.hash(store, 2);
        PatchBytes patch = new PatchBytes().on(one, two);
        int o = patch.place(one);
        int t = patch.place(two);
        byte[] good = patch.add(0x01020304, "name").call(o, 0, "call", o, 0)
            .insert(o, 0, PatchBytes.line(t, 0, 0), PatchBytes.line(t, 0, 1), "line\n", "l")
            .delete(t, 0, 1).order(PatchBytes.line(t, 0, 1), PatchBytes.line(t, 0, 0)).bytes();
        due("as it is", 0, good);
        for (int length = 0; length < good.length; length++) {
            due("cut at " + length, 1, Arrays.copyOf(good, length));
        }
        for (int more = 0; more < 256; more++) {
            due(more + " behind", 1, Use.join(good, Use.raw(more)));
        }
        due("itself behind", 1, Use.join(good, good));
        due("a CHANGE behind", 1, Use.join(good, Use.raw(0, 0, 0, 0, 0, 1, 'x')));
    }

    /** "CHANGES, by their first byte". */
    private static void kindsOfChange() {
        for (int kind = 5; kind < 256; kind++) {
            due("kind " + kind, 1, new PatchBytes().change(kind, 0, 0, 0, 0, 1, 'f').bytes());
            due("kind " + kind + " alone", 1, own().change(kind).bytes());
        }
    }

    /** ADD: "4 bytes, any; a byte n, a NAME of n bytes"; "1 to 64 bytes, 33 .. 126". */
    private static void addNames() {
        for (int salt : new int[] {0, -1, Integer.MIN_VALUE, Integer.MAX_VALUE, 0x0a0a0a0a}) {
            due("any 4 bytes", 0, new PatchBytes().add(salt, "n").bytes());
        }
        for (int length : new int[] {1, 2, 63, 64}) {
            due("a NAME of " + length, 0, new PatchBytes().add(0, "n".repeat(length)).bytes());
        }
        for (int length : new int[] {0, 65, 66, 127, 128, 129, 192, 255}) {
            due("a NAME of " + length, 1, new PatchBytes().add(0, "n".repeat(length)).bytes());
        }
        for (int value = 0; value < 256; value++) {
            int fault = value >= 33 && value <= 126 ? 0 : 1;
            due("byte " + value, fault, new PatchBytes().add(0, "" + (char) value).bytes());
            due("byte " + value + " first", fault, new PatchBytes().add(0, (char) value + "n").bytes());
            due("byte " + value + " last", fault, new PatchBytes().add(0, "n".repeat(63) + (char) value).bytes());
        }
    }

    /** CALL: "a byte n, 0 or a NAME of n bytes". */
    private static void callNames() {
        for (int length : new int[] {0, 1, 2, 63, 64}) {
            PatchStore store = new PatchStore();
            due("a NAME of " + length, 0, store, own().call(OWN, 0, "n".repeat(length), OWN, 0).bytes());
            Check.due("NAMINGS", store.about(0, 1), length == 0 ? 0 : 1);
        }
        for (int length : new int[] {65, 66, 127, 128, 129, 192, 255}) {
            due("a NAME of " + length, 1, own().call(OWN, 0, "n".repeat(length), OWN, 0).bytes());
        }
        for (int value = 0; value < 256; value++) {
            int fault = value >= 33 && value <= 126 ? 0 : 1;
            due("byte " + value, fault, own().call(OWN, 0, "" + (char) value, OWN, 0).bytes());
            due("byte " + value + " last", fault, own().call(OWN, 0, "n" + (char) value, OWN, 0).bytes());
        }
    }

    /** CALL: "m REFS of NAMINGS ... 1 or more, none twice". */
    private static void callNamings() {
        due("m is 0", 1, own().call(OWN, 0, "x").bytes());
        due("m is 0, without a NAME", 1, own().call(OWN, 0, "").bytes());
        for (int m : new int[] {1, 2, 127, 128, 255}) {
            PatchStore store = new PatchStore();
            due(m + " NAMINGS", 0, store, namings(m, m - 1).bytes());
            // Of the 255 NAMINGS the first two are OVER before.
            Check.due("NAMINGS that are left, and the new one", store.file(0, 0, 5), 253 - Math.min(m, 253) + 1);
            due(m + " NAMINGS, the last twice", m == 1 ? 0 : 3, namings(m, Math.max(m - 2, 0)).bytes());
            due(m + " NAMINGS, the last is the first", m == 1 ? 0 : 3, namings(m, 0).bytes());
        }
    }

    /** An ADD, 254 CALLS of it that give it NAMES, and one with m of these 255 NAMINGS OVER; the last is given. */
    private static PatchBytes namings(int m, int last) {
        PatchBytes patch = own();
        patch.call(OWN, 0, "n1", OWN, 0);
        for (int i = 2; i < 255; i++) {
            patch.call(OWN, 0, "n" + i, OWN, 1);
        }
        int[] refs = new int[2 * m];
        for (int i = 0; i < m; i++) {
            refs[2 * i] = OWN;
            // From CHANGE 2 on, so that those which are OVER already come last.
            refs[2 * i + 1] = ((i == m - 1 ? last : i) + 2) % 255;
        }
        return patch.call(OWN, 0, "x", refs);
    }

    /** INSERT: "a byte, 0 ... or 1 and the REF of a LINE". */
    private static void upAndDown() {
        for (int value = 0; value < 256; value++) {
            PatchBytes up = own().insert(OWN, 0, null, null, "x").change(2).ref(OWN, 0).more(value);
            PatchBytes down = own().insert(OWN, 0, null, null, "x").change(2).ref(OWN, 0).more(0, value);
            if (value == 1) {
                up.ref(OWN, 1, 0);
                down.ref(OWN, 1, 0);
            }
            int fault = value < 2 ? 0 : 1;
            due("UP " + value, fault, up.more(0, 0, 1, 0, 1, 'y').bytes());
            due("DOWN " + value, fault, down.more(0, 1, 0, 1, 'y').bytes());
            if (value > 1) {
                PatchBytes withRef = own().insert(OWN, 0, null, null, "x").change(2).ref(OWN, 0).more(value);
                due("UP " + value + " and a REF", 1, withRef.ref(OWN, 1, 0).more(0, 0, 1, 0, 1, 'y').bytes());
            }
        }
    }

    /** INSERT: "number of LINES, 1 or more". */
    private static void numberOfLines() {
        due("no LINES", 1, own().insert(OWN, 0, null, null).bytes());
        for (int total : new int[] {1, 2, 255, 256, 257, 400}) {
            String[] lines = new String[total];
            Arrays.fill(lines, "x");
            PatchStore store = new PatchStore();
            due(total + " LINES", 0, store, own().insert(OWN, 0, null, null, lines).bytes());
            Check.due("LINES", store.file(0, 0, 0), total);
            PatchStore last = new PatchStore();
            due("the last of " + total, 0, last, own().insert(OWN, 0, null, null, lines)
                .delete(OWN, 1, total - 1).bytes());
            Check.due("LINES", last.file(0, 0, 0), total - 1);
            due("one behind the last of " + total, 3, own().insert(OWN, 0, null, null, lines)
                .delete(OWN, 1, total).bytes());
        }
        for (int said : new int[] {0, 2, 256, 257, 65535}) {
            due(said + " said, one there", 1, own().change(2).ref(OWN, 0).more(0, 0, said >> 8, said, 0, 1, 'x').bytes());
        }
    }

    /** "A LINE: 1 to 500 bytes"; "each 2 bytes: its length, its bytes". */
    private static void lengthOfLines() {
        for (int length : new int[] {1, 2, 255, 256, 257, 499, 500}) {
            PatchStore store = new PatchStore();
            due(length + " bytes", 0, store, own().insert(OWN, 0, null, null, "x".repeat(length)).bytes());
            Check.due("its length", store.line(0, 0, 0, -1), length);
            due(length + " bytes with LF", 0, own().insert(OWN, 0, null, null, "x".repeat(length - 1) + "\n").bytes());
        }
        for (int length : new int[] {0, 501, 502, 756, 1000}) {
            due(length + " bytes", 1, own().insert(OWN, 0, null, null, "x".repeat(length)).bytes());
            due(length + " bytes, the second", 1, own().insert(OWN, 0, null, null, "x", "x".repeat(length)).bytes());
        }
        due("501 bytes with LF", 1, own().insert(OWN, 0, null, null, "x".repeat(500) + "\n").bytes());
        due("65,535 bytes said", 1, own().change(2).ref(OWN, 0).more(0, 0, 0, 1, 255, 255, 'x').bytes());
    }

    /** "of which only the last can be ... LF"; "a LINE of INSERT may be without LF at its end anywhere". */
    private static void lfInLines() {
        for (int length : new int[] {1, 2, 3, 10, 500}) {
            for (int at : new int[] {0, length / 2, length - 2, length - 1}) {
                if (at >= 0) {
                    char[] line = "x".repeat(length).toCharArray();
                    line[at] = '\n';
                    int fault = at == length - 1 ? 0 : 1;
                    due("LF at " + at + " of " + length, fault,
                        own().insert(OWN, 0, null, null, new String(line)).bytes());
                }
            }
        }
        due("LF twice", 1, own().insert(OWN, 0, null, null, "\n\n").bytes());
        PatchStore store = new PatchStore();
        due("without LF anywhere", 0, store, own().insert(OWN, 0, null, null, "a", "b\n", "c", "\n", "d").bytes());
        Check.due("TEXT", Use.text(store, 0, 0), "ab\nc\nd");
        Check.due("LINES", store.file(0, 0, 0), 5);
        for (int value = 0; value < 256; value++) {
            if (value != 10) {
                due("byte " + value, 0, own().insert(OWN, 0, null, null, (char) value + "x" + (char) value).bytes());
            }
        }
    }

    private static PatchBytes onBoth(PatchStore store) {
        return new PatchBytes().on(Use.hash(store, 1), Use.hash(store, 2));
    }

    /** With a CHANGE behind that names both, so that a DEPENDENCY is never the fault. */
    private static PatchBytes naming(PatchBytes patch, int one, int two) {
        return patch.insert(one, 0, PatchBytes.line(two, 0, 0), null, "x");
    }

    /** "REF of the ADD of a FILE": of CALL and of INSERT. */
    private static void refsOfFiles() {
        PatchStore store = made();
        int one = onBoth(store).place(Use.hash(store, 1));
        int two = onBoth(store).place(Use.hash(store, 2));
        int[][] refs = {{one, 0, 0}, {one, 1, 3}, {one, 2, 3}, {one, 65535, 3}, {two, 0, 3}, {two, 1, 3}, {two, 2, 3},
            {2, 0, 3}, {3, 0, 3}, {256 + one, 0, 3}, {65534, 0, 3}, {OWN, 0, 3}, {OWN, 1, 3}, {OWN, 65535, 3}};
        for (int[] ref : refs) {
            String what = " of FILE " + ref[0] + ", " + ref[1];
            due("CALL" + what, ref[2], naming(onBoth(store).call(ref[0], ref[1], "x", one, 0), one, two).bytes());
            PatchBytes insert = onBoth(store).insert(ref[0], ref[1], PatchBytes.line(two, 0, 0), null, "x");
            due("INSERT" + what, ref[2], naming(insert, one, two).bytes());
        }
        due("INSERT of the last FILE", 0, naming(onBoth(store).insert(one, 1, null, null, "x"), one, two).bytes());
        due("CALL of the last FILE", 0, naming(onBoth(store).call(one, 1, "x", one, 1), one, two).bytes());
        int[] kinds = {0, 3, 3, 3, 3};
        for (int change = 0; change < 5; change++) {
            due("CALL of own CHANGE " + change, kinds[change], kinds().call(OWN, change, "x", OWN, 0).bytes());
            due("INSERT of own CHANGE " + change, kinds[change], kinds().insert(OWN, change, null, null, "x").bytes());
        }
    }

    /** CHANGES 0 to 4 are of these kinds, 5 is a CALL without a NAME, 6 an ADD. */
    private static PatchBytes kinds() {
        return own().call(OWN, 0, "c", OWN, 0).insert(OWN, 0, null, null, "x", "y").delete(OWN, 2, 0)
            .order(PatchBytes.line(OWN, 2, 0), PatchBytes.line(OWN, 2, 1)).call(OWN, 0, "", OWN, 1).add(0, "other");
    }

    /** "NAMINGS (ADD or CALL with a NAME) of that FILE". */
    private static void refsOfNamings() {
        int[] faults = {0, 0, 3, 3, 3, 3, 3, 3, 3};
        for (int change = 0; change < faults.length; change++) {
            due("NAMING " + change, faults[change], kinds().call(OWN, 0, "n", OWN, change).bytes());
            due("NAMING " + change + " behind one", change == 1 ? 3 : faults[change],
                kinds().call(OWN, 0, "n", OWN, 1, OWN, change).bytes());
        }
        due("of the other FILE", 0, kinds().call(OWN, 6, "n", OWN, 6).bytes());
        due("the ADD's NAMING for the other FILE", 3, kinds().call(OWN, 6, "n", OWN, 0).bytes());
        due("the CALL's NAMING for the other FILE", 3, kinds().call(OWN, 6, "n", OWN, 1).bytes());
        PatchStore store = made();
        byte[] one = Use.hash(store, 1);
        for (int p = 1; p <= 5; p++) {
            PatchBytes patch = p == 1 ? new PatchBytes().on(one) : new PatchBytes().on(one, Use.hash(store, p));
            int f = patch.place(one);
            int other = patch.place(Use.hash(store, p));
            due("NAMING of PATCH " + p, p == 1 || p == 3 ? 0 : 3, patch.call(f, 0, "n", other, 0).bytes());
        }
        due("NAMING of g", 3, new PatchBytes().on(one).call(0, 0, "n", 0, 1).bytes());
        due("NAMING beyond", 3, new PatchBytes().on(one).call(0, 0, "n", 0, 2).bytes());
        due("NAMING of DEPENDENCY 1 of 1", 3, new PatchBytes().on(one).call(0, 0, "n", 1, 0).bytes());
    }

    /** "REF of a LINE": of UP, DOWN, DELETE and ORDER; "of that FILE", "of one FILE". */
    private static void refsOfLines() {
        PatchStore store = made();
        int one = onBoth(store).place(Use.hash(store, 1));
        int two = onBoth(store).place(Use.hash(store, 2));
        int[] a = PatchBytes.line(two, 0, 0);
        int[][] refs = {{two, 0, 0, 0}, {two, 0, 1, 0}, {two, 0, 2, 3}, {two, 0, 256, 3}, {two, 0, 65535, 3},
            {two, 2, 0, 3}, {two, 256, 0, 3}, {two, 65535, 0, 3}, {one, 0, 0, 3}, {one, 1, 0, 3}, {2, 0, 0, 3},
            {65534, 0, 0, 3}, {OWN, 0, 0, 3}, {OWN, 1, 0, 3}, {two, 1, 0, 3}, {two, 1, 1, 3}};
        for (int[] ref : refs) {
            int[] line = PatchBytes.line(ref[0], ref[1], ref[2]);
            String what = " at " + ref[0] + ", " + ref[1] + ", " + ref[2];
            boolean ofG = ref[0] == two && ref[1] == 1 && ref[2] == 0;
            due("UP" + what, ref[3], naming(onBoth(store).insert(one, 0, line, null, "x"), one, two).bytes());
            due("UP, with a DOWN" + what, ref[3], naming(onBoth(store).insert(one, 0, line, a, "x"), one, two).bytes());
            due("DOWN" + what, ref[3], naming(onBoth(store).insert(one, 0, null, line, "x"), one, two).bytes());
            due("DOWN, with an UP" + what, ref[3], naming(onBoth(store).insert(one, 0, a, line, "x"), one, two).bytes());
            due("DELETE" + what, ofG ? 0 : ref[3],
                naming(onBoth(store).delete(ref[0], ref[1], ref[2]), one, two).bytes());
            boolean isA = Arrays.equals(line, a);
            due("ORDER, first" + what, isA ? 3 : ref[3], naming(onBoth(store).order(line, a), one, two).bytes());
            due("ORDER, second" + what, isA ? 3 : ref[3], naming(onBoth(store).order(a, line), one, two).bytes());
        }
        for (int change = 0; change < 7; change++) {
            int fault = change == 2 ? 0 : 3;
            due("DELETE of own CHANGE " + change, fault, kinds().delete(OWN, change, 0).bytes());
            due("UP of own CHANGE " + change, fault,
                kinds().insert(OWN, 0, PatchBytes.line(OWN, change, 0), null, "x").bytes());
        }
    }

    /**
     * "2 bytes: a CHANGE of that, from 0": one behind the last is none, though the next PATCH of THE STOCK, or what
     * is read itself, may have a CHANGE there that would do.
     */
    private static void changesBeyond() {
        for (int p = 1; p <= 2; p++) {
            PatchStore store = Edge.withProbe();
            Use.read(store, 0, new PatchBytes().add(0, "f").bytes());
            byte[] f = Use.hash(store, 1);
            for (int i = 0; i < p; i++) {
                Use.read(store, 0, new PatchBytes().on(f).insert(0, 0, null, null, "x" + i).bytes());
            }
            byte[] lines = Use.hash(store, 2);
            PatchBytes patch = new PatchBytes().on(f, lines);
            int l = patch.place(lines);
            patch.insert(patch.place(f), 0, PatchBytes.line(l, 0, 0), null, "y");
            due("DELETE, then " + (p - 1) + " PATCHES", 3, store, patch.delete(l, 1, 0).bytes());
        }
        for (int p = 1; p <= 2; p++) {
            PatchStore store = Edge.withProbe();
            for (int i = 0; i < p; i++) {
                Use.read(store, 0, new PatchBytes().add(i, "f").bytes());
            }
            PatchBytes patch = new PatchBytes().on(Use.hash(store, 1)).add(0, "own").call(0, 0, "x", 0, 0);
            due("INSERT, then " + (p - 1) + " PATCHES", 3, store, patch.insert(0, 1, null, null, "x").bytes());
        }
        PatchStore store = Edge.withProbe();
        Use.read(store, 0, new PatchBytes().add(0, "f").bytes());
        byte[] f = Use.hash(store, 1);
        Use.read(store, 0, new PatchBytes().on(f).call(0, 0, "g", 0, 0).bytes());
        due("NAMING, then a PATCH", 3, store, new PatchBytes().on(f).call(0, 0, "h", 0, 1).bytes());
    }

    /** ORDER: "two LINES of one FILE, not the same". */
    private static void orders() {
        int[][] lines = {PatchBytes.line(OWN, 2, 0), PatchBytes.line(OWN, 2, 1), PatchBytes.line(OWN, 3, 0),
            PatchBytes.line(OWN, 4, 0)};
        for (int i = 0; i < 4; i++) {
            for (int j = 0; j < 4; j++) {
                PatchBytes patch = own().add(0, "other").insert(OWN, 0, null, null, "x", "y")
                    .insert(OWN, 0, null, null, "z").insert(OWN, 1, null, null, "w").order(lines[i], lines[j]);
                due("ORDER of " + i + " and " + j, i != j && i < 3 && j < 3 ? 0 : 3, patch.bytes());
            }
        }
    }

    /** "Within a PATCH REFS to itself name earlier CHANGES alone". */
    private static void ownRefs() {
        due("CALL of a later ADD", 3, new PatchBytes().call(OWN, 1, "x", OWN, 1).add(0, "n").bytes());
        due("INSERT of a later ADD", 3, new PatchBytes().insert(OWN, 1, null, null, "x").add(0, "n").bytes());
        due("INSERT of its own number", 3, new PatchBytes().insert(OWN, 0, null, null, "x").bytes());
        due("NAMING of its own number", 3, own().call(OWN, 0, "x", OWN, 1).bytes());
        due("NAMING of a later number", 3, own().call(OWN, 0, "x", OWN, 2).call(OWN, 0, "y", OWN, 0).bytes());
        due("NAMING of an earlier number", 0, own().call(OWN, 0, "x", OWN, 0).call(OWN, 0, "y", OWN, 1).bytes());
        int[] own = PatchBytes.line(OWN, 2, 0);
        int[] later = PatchBytes.line(OWN, 3, 0);
        int[] earlier = PatchBytes.line(OWN, 1, 0);
        for (int[] line : new int[][] {own, later, earlier}) {
            int fault = line == earlier ? 0 : 3;
            due("UP", fault, withLater(own().insert(OWN, 0, null, null, "a").insert(OWN, 0, line, null, "x", "y")));
            due("DOWN", fault, withLater(own().insert(OWN, 0, null, null, "a").insert(OWN, 0, null, line, "x", "y")));
            due("DELETE", fault, withLater(own().insert(OWN, 0, null, null, "a").delete(OWN, line[1], 0)));
            int[] other = PatchBytes.line(OWN, 1, 1);
            due("ORDER, first", fault, withLater(own().insert(OWN, 0, null, null, "a", "b").order(line, other)));
            due("ORDER, second", fault, withLater(own().insert(OWN, 0, null, null, "a", "b").order(other, line)));
        }
    }

    private static byte[] withLater(PatchBytes patch) {
        return patch.insert(OWN, 0, null, null, "later", "last").bytes();
    }

    /** "2: else a DEPENDENCY is not in the SET". */
    private static void dependenciesInSet() {
        PatchStore store = made();
        byte[] one = Use.hash(store, 1);
        byte[] two = Use.hash(store, 2);
        byte[] three = Use.hash(store, 3);
        byte[] none = three.clone();
        none[31] ^= 1;
        due("no PATCH of THE STOCK", 2, new PatchBytes().on(none).call(0, 0, "x", 0, 0).bytes());
        due("a PATCH of another SET", 2, new PatchBytes().on(Use.hash(store, 0)).call(0, 0, "x", 0, 0).bytes());
        PatchBytes mixed = new PatchBytes().on(one, none);
        due("one of two", 2, mixed.call(mixed.place(one), 0, "x", mixed.place(none), 0).bytes());
        PatchBytes patch = new PatchBytes().on(one, three);
        byte[] bytes = patch.call(patch.place(one), 0, "x", patch.place(three), 0).bytes();
        store.drop(0, 3);
        due("a PATCH that was dropped", 2, store, bytes);
        PatchStore again = made();
        again.drop(0, 3);
        again.pull(1, 0, -1);
        again.show(3);
        again.read(0);
        due("and taken again", 0, again, bytes);
        PatchStore near = made();
        near.pull(1, 0, 1);
        Use.tape(near, new PatchBytes().on(two).delete(0, 0, 0).bytes());
        Edge.faulty("the SET has what the DEPENDENCY is on", near, 1, 2);
    }

    /** "Each DEPENDENCY is named by a REF": whatever REF that is. */
    private static void namedDependencies() {
        PatchStore store = made();
        byte[] one = Use.hash(store, 1);
        byte[] two = Use.hash(store, 2);
        byte[] three = Use.hash(store, 3);
        due("not named", 4, new PatchBytes().on(one).add(0, "n").bytes());
        due("none", 0, new PatchBytes().add(0, "n").bytes());
        PatchBytes both = new PatchBytes().on(one, two);
        int o = both.place(one);
        int t = both.place(two);
        int[] a = PatchBytes.line(t, 0, 0);
        int[] b = PatchBytes.line(t, 0, 1);
        due("one of two", 4, new PatchBytes().on(one, two).insert(o, 0, null, null, "x").bytes());
        due("the other of two", 4, new PatchBytes().on(one, two).delete(t, 0, 0).bytes());
        due("by UP", 0, new PatchBytes().on(one, two).insert(o, 0, a, null, "x").bytes());
        due("by DOWN", 0, new PatchBytes().on(one, two).insert(o, 0, null, a, "x").bytes());
        due("by DELETE", 0, new PatchBytes().on(two).delete(0, 0, 0).bytes());
        due("by ORDER", 0, new PatchBytes().on(two).order(PatchBytes.line(0, 0, 0), PatchBytes.line(0, 0, 1)).bytes());
        due("by two CHANGES", 0, new PatchBytes().on(one, two).call(o, 0, "x", o, 0).order(a, b).bytes());
        PatchBytes naming = new PatchBytes().on(one, three);
        due("by a NAMING", 0, naming.call(naming.place(one), 0, "x", naming.place(three), 0).bytes());
        PatchBytes noNaming = new PatchBytes().on(one, three);
        int place = noNaming.place(one);
        due("by no NAMING", 4, noNaming.call(place, 0, "x", place, 0).bytes());
        PatchStore lines = made();
        Use.read(lines, 0, new PatchBytes().on(one).insert(0, 0, null, null, "z").bytes());
        byte[] six = Use.hash(lines, 6);
        PatchBytes order = new PatchBytes().on(two, six);
        int[] first = PatchBytes.line(order.place(two), 0, 0);
        int[] second = PatchBytes.line(order.place(six), 0, 0);
        due("by the first and the second of ORDER", 0, lines, order.order(first, second).bytes());
    }

    /** "BYTES with the HASH of a PATCH that there is are that PATCH ... but for FAULTS 1 and 2". */
    private static void knownBytes() {
        PatchStore store = made();
        store.show(2);
        Check.due("in its SET", store.read(0), 2);
        Check.due("THE TAPE is taken", store.count(0), 0);
        store.show(2);
        Edge.faulty("its DEPENDENCY is not in the SET", store, 1, 2);
        store.pull(1, 0, 1);
        Check.due("now it is", store.read(1), 2);
        Check.due("fault", store.fault(), 0);
        Check.due("it is in the SET", store.has(1, 2, 0), 1);
        Check.due("THE STOCK", store.count(1), 6);
        int length = store.show(2);
        store.feed(0, 0, 0, 0, 0);
        store.end(length + 1);
        Edge.faulty("more behind", store, 0, 1);
        store.end(length - 1);
        Edge.faulty("less", store, 0, 1);
        store.drop(1, 2);
        store.drop(1, 1);
        store.show(2);
        Edge.faulty("its DEPENDENCY went from the SET", store, 1, 2);
        Check.due("where it did not", store.read(0), 2);
    }

    /** "1 ...; 2: else ...; 3: else ...; 4: else ...". */
    private static void orderOfFaults() {
        PatchStore store = made();
        byte[] one = Use.hash(store, 1);
        byte[] none = new byte[32];
        due("1 and 2", 1, new PatchBytes().on(none).add(0, "").bytes());
        due("1 and 3", 1, new PatchBytes().on(one).delete(0, 0, 0).add(0, " ").bytes());
        due("1 and 4", 1, Use.join(new PatchBytes().on(one).add(0, "n").bytes(), Use.raw(0)));
        due("2 and 3", 2, new PatchBytes().on(none).delete(1, 0, 0).bytes());
        due("2 and 4", 2, new PatchBytes().on(none).add(0, "n").bytes());
        due("3 and 4", 3, new PatchBytes().on(one).delete(OWN, 0, 0).bytes());
        due("3 in the last CHANGE and 4", 3, new PatchBytes().on(one).add(0, "n").delete(OWN, 0, 0).bytes());
        due("all four", 1, new PatchBytes().on(none).delete(OWN, 0, 0).change(5).bytes());
    }
}
