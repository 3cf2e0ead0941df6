import java.util.Arrays;

/** Promises 7 (read), 8 (fault) and 9 (show). */
public final class ReadTest {
    private static final int OWN = PatchBytes.OWN;

    public static void main(String[] args) {
        goodOnes();
        knownOnes();
        head();
        formOfAdd();
        formOfCall();
        formOfInsert();
        formOfRest();
        dependencies();
        refsOfCall();
        refsOfLines();
        unnamed();
        orderOfFaults();
        faultOfLastRead();
        show();
        Check.finish();
    }

    private static void fault(String what, int due, byte[] patch) {
        fault(what, due, new PatchStore(), patch);
    }

    private static void fault(String what, int due, PatchStore store, byte[] patch) {
        int before = store.count(1);
        Check.due(what, Use.faultOf(store, 0, patch), due);
        Check.due(what + ": PATCHES", store.count(1), before + (due == 0 ? 1 : 0));
        Check.due(what + ": THE TAPE", store.count(0), due == 0 ? 0 : patch.length);
    }

    /** PATCH 0 ADDS f and g; 1 has LINES a, b of f and c of g; 2 is a CALL of f with a NAME, 3 without one. */
    private static PatchStore filled() {
        PatchStore store = new PatchStore();
        Use.read(store, 0, new PatchBytes().add(0, "f").add(0, "g").bytes());
        byte[] zero = Use.hash(store, 0);
        Use.read(store, 0, new PatchBytes().on(zero).insert(0, 0, null, null, "a\n", "b\n")
            .insert(0, 1, null, null, "c\n").bytes());
        Use.read(store, 0, new PatchBytes().on(zero).call(0, 0, "h", 0, 0).bytes());
        Use.read(store, 0, new PatchBytes().on(zero).call(0, 0, "", 0, 0).bytes());
        return store;
    }

    private static void goodOnes() {
        PatchStore store = filled();
        Check.due("PATCHES", store.count(1), 4);
        Check.due("FILES", store.count(3), 2);
        Check.due("LINES", store.count(2), 3);
        Check.due("f", Use.name(store, 0, 0, 0), "h");
        Check.due("g", Use.name(store, 0, 1, 0), "g");
        Check.due("all by itself", Use.read(store, 1, new PatchBytes().add(9, "x").call(OWN, 0, "y", OWN, 0)
            .insert(OWN, 0, null, null, "1", "2\n").insert(OWN, 0, PatchBytes.line(OWN, 2, 0),
            PatchBytes.line(OWN, 2, 1), "3\n").delete(OWN, 2, 1)
            .order(PatchBytes.line(OWN, 2, 1), PatchBytes.line(OWN, 3, 0)).bytes()), 4);
        Check.due("its FILE", Use.name(store, 1, 0, 0) + Use.text(store, 1, 0), "y13\n");
        fault("a NAME of 64", 0, new PatchBytes().add(0, "n".repeat(64)).bytes());
        fault("a LINE of 500", 0, new PatchBytes().add(0, "f").insert(OWN, 0, null, null, "n".repeat(500)).bytes());
        Check.noSuchElement("no such REPOSITORY", () -> store.read(8));
        Check.noSuchElement("no such REPOSITORY", () -> store.read(-1));
    }

    private static void knownOnes() {
        PatchStore store = filled();
        Check.due("show", store.show(1), 2 + 32 + 2 + 17 + 13);
        Check.illegalArgument("its DEPENDENCY is not in the SET", () -> store.read(1));
        Check.due("fault", store.fault(), 2);
        store.pull(1, 0, 0);
        Check.due("now it is", store.read(1), 1);
        Check.due("it comes to the SET", store.has(1, 1, 0), 1);
        Check.due("THE STOCK has it once", store.count(1), 4);
        store.show(1);
        Check.due("once more", store.read(1), 1);
        Check.due("the SET has it once", store.about(1, 0), 2);
    }

    private static void head() {
        fault("nothing", 1, new byte[0]);
        fault("one byte", 1, Use.raw(0));
        fault("two bytes", 1, Use.raw(0, 0));
        fault("three bytes", 1, Use.raw(0, 0, 0));
        fault("no CHANGES", 1, Use.raw(0, 0, 0, 0));
        fault("a CHANGE missing", 1, Use.raw(0, 0, 0, 1));
        fault("HASHES missing", 1, Use.raw(0, 1, 0, 0, 0, 1, 0, 0, 0, 0, 0, 1, 'f'));
        fault("very many HASHES", 1, Use.raw(255, 255, 0, 0, 0, 1, 0, 0, 0, 0, 0, 1, 'f'));
        PatchBytes good = new PatchBytes().add(0, "f").add(0, "g");
        fault("a CHANGE too many", 1, good.bytes(3));
        fault("a CHANGE too few", 1, good.bytes(1));
        fault("a byte behind", 1, Use.join(good.bytes(), Use.raw(0)));
        fault("a byte missing", 1, Arrays.copyOf(good.bytes(), good.bytes().length - 1));
        fault("no such CHANGE", 1, new PatchBytes().change(5).bytes());
        fault("no such CHANGE", 1, new PatchBytes().change(255, 0, 0, 0, 0, 0, 0).bytes());
        PatchStore store = filled();
        byte[][] two = {Use.hash(store, 0), Use.hash(store, 1)};
        Arrays.sort(two, Arrays::compareUnsigned);
        fault("falling", 1, store, new PatchBytes().onAsGiven(two[1], two[0]).add(0, "f").bytes());
        fault("twice", 1, store, new PatchBytes().onAsGiven(two[0], two[0]).add(0, "f").bytes());
        byte[] low = new byte[32];
        byte[] high = new byte[32];
        low[0] = 127;
        high[0] = -128;
        fault("rising as 0 .. 255", 2, new PatchBytes().onAsGiven(low, high).add(0, "f").bytes());
        fault("falling as 0 .. 255", 1, new PatchBytes().onAsGiven(high, low).add(0, "f").bytes());
    }

    private static void formOfAdd() {
        fault("no NAME", 1, new PatchBytes().add(0, "").bytes());
        fault("65 bytes", 1, new PatchBytes().add(0, "n".repeat(65)).bytes());
        fault("200 bytes", 1, new PatchBytes().add(0, "n".repeat(200)).bytes());
        for (int wrong : new int[] {0, 10, 32, 127, 128, 255}) {
            fault("byte " + wrong, 1, new PatchBytes().add(0, "n" + (char) wrong).bytes());
        }
        fault("33", 0, new PatchBytes().add(0, "!").bytes());
        fault("126", 0, new PatchBytes().add(0, "~").bytes());
        for (int length = 0; length < 7; length++) {
            byte[] add = Arrays.copyOf(Use.raw(0, 0, 0, 0, 0, 1, 'f'), length);
            fault("cut at " + length, 1, Use.join(Use.raw(0, 0, 0, 1), add));
        }
    }

    private static void formOfCall() {
        fault("no NAMINGS", 1, new PatchBytes().add(0, "f").call(OWN, 0, "g").bytes());
        fault("a wrong NAME", 1, new PatchBytes().add(0, "f").call(OWN, 0, " ", OWN, 0).bytes());
        fault("65 bytes", 1, new PatchBytes().add(0, "f").call(OWN, 0, "n".repeat(65), OWN, 0).bytes());
        fault("no NAME", 0, new PatchBytes().add(0, "f").call(OWN, 0, "", OWN, 0).bytes());
        byte[] all = new PatchBytes().add(0, "f").call(OWN, 0, "gh", OWN, 0).bytes();
        for (int length = 11; length < all.length; length++) {
            fault("cut at " + length, 1, Arrays.copyOf(all, length));
        }
        PatchBytes many = new PatchBytes().add(0, "f").change(1).ref(OWN, 0).more(255).ref(OWN, 0);
        fault("255 NAMINGS said", 1, many.more(0).bytes());
    }

    private static void formOfInsert() {
        PatchBytes add = new PatchBytes().add(0, "f");
        fault("no LINES", 1, add.insert(OWN, 0, null, null).bytes());
        fault("an empty LINE", 1, new PatchBytes().add(0, "f").insert(OWN, 0, null, null, "a", "").bytes());
        fault("501 bytes", 1, new PatchBytes().add(0, "f").insert(OWN, 0, null, null, "n".repeat(501)).bytes());
        fault("LF within", 1, new PatchBytes().add(0, "f").insert(OWN, 0, null, null, "\n\n").bytes());
        fault("a length of 10", 0, new PatchBytes().add(0, "f").insert(OWN, 0, null, null, "123456789\n").bytes());
        fault("LF within", 1, new PatchBytes().add(0, "f").insert(OWN, 0, null, null, "a\nb").bytes());
        fault("without LF anywhere", 0, new PatchBytes().add(0, "f").insert(OWN, 0, null, null, "a", "b").bytes());
        fault("UP 2", 1, new PatchBytes().add(0, "f").change(2).ref(OWN, 0).more(2, 0, 0, 1, 0, 1, 'a').bytes());
        fault("DOWN 2", 1, new PatchBytes().add(0, "f").change(2).ref(OWN, 0).more(0, 2, 0, 1, 0, 1, 'a').bytes());
        fault("DOWN 255", 1, new PatchBytes().add(0, "f").change(2).ref(OWN, 0).more(0, 255, 0, 1, 0, 1, 'a').bytes());
        int[] line = PatchBytes.line(OWN, 1, 0);
        byte[] all = new PatchBytes().add(0, "f").insert(OWN, 0, null, null, "a").insert(OWN, 0, line, line, "ab")
            .bytes();
        for (int length = 24; length < all.length; length++) {
            fault("cut at " + length, 1, Arrays.copyOf(all, length));
        }
        fault("not cut", 0, all);
    }

    private static void formOfRest() {
        int[] a = PatchBytes.line(OWN, 1, 0);
        int[] b = PatchBytes.line(OWN, 1, 1);
        byte[] delete = new PatchBytes().add(0, "f").insert(OWN, 0, null, null, "a", "b").delete(OWN, 1, 0).bytes();
        byte[] order = new PatchBytes().add(0, "f").insert(OWN, 0, null, null, "a", "b").order(a, b).bytes();
        fault("DELETE", 0, delete);
        fault("ORDER", 0, order);
        for (int length = delete.length - 7; length < delete.length; length++) {
            fault("DELETE cut at " + length, 1, Arrays.copyOf(delete, length));
        }
        for (int length = order.length - 13; length < order.length; length++) {
            fault("ORDER cut at " + length, 1, Arrays.copyOf(order, length));
        }
    }

    private static void dependencies() {
        PatchStore store = filled();
        byte[] none = new byte[32];
        fault("no such PATCH", 2, store, new PatchBytes().on(none).add(0, "z").bytes());
        Use.add(store, 1, 5, "else");
        byte[] elsewhere = Use.hash(store, 4);
        byte[] patch = new PatchBytes().on(elsewhere).insert(0, 0, null, null, "z").bytes();
        fault("a PATCH of another SET", 2, store, patch);
        store.pull(0, 1, 4);
        fault("now of this SET", 0, store, patch);
    }

    private static void refsOfCall() {
        PatchStore store = filled();
        byte[] zero = Use.hash(store, 0);
        byte[] one = Use.hash(store, 1);
        byte[] two = Use.hash(store, 2);
        byte[] three = Use.hash(store, 3);
        fault("k beyond", 3, store, new PatchBytes().on(zero).call(1, 0, "x", 0, 0).bytes());
        fault("k far beyond", 3, store, new PatchBytes().on(zero).call(0, 0, "x", 65534, 0).bytes());
        fault("CHANGE beyond", 3, store, new PatchBytes().on(zero).call(0, 2, "x", 0, 0).bytes());
        fault("a NAMING beyond", 3, store, new PatchBytes().on(zero).call(0, 0, "x", 0, 2).bytes());
        fault("of another FILE", 3, store, new PatchBytes().on(zero).call(0, 0, "x", 0, 1).bytes());
        fault("twice", 3, store, new PatchBytes().on(zero).call(0, 0, "x", 0, 0, 0, 0).bytes());
        fault("no ADD", 3, store, new PatchBytes().on(one).call(0, 0, "x", 0, 0).bytes());
        PatchBytes ofCall = new PatchBytes().on(zero, two);
        int z = ofCall.place(zero);
        int t = ofCall.place(two);
        fault("a CALL is no ADD", 3, store, new PatchBytes().on(zero, two).call(t, 0, "x", z, 0).bytes());
        fault("a CALL is a NAMING", 0, store, new PatchBytes().on(zero, two).call(z, 0, "x", t, 0).bytes());
        fault("two NAMINGS", 0, store, new PatchBytes().on(zero, two).call(z, 0, "x", t, 0, z, 0).bytes());
        PatchBytes thirdAgain = new PatchBytes().on(zero, two).call(z, 0, "x", t, 0, z, 0, z, 0);
        fault("the third is the second", 3, store, thirdAgain.bytes());
        PatchBytes ofNone = new PatchBytes().on(zero, three);
        ofNone.call(ofNone.place(zero), 0, "x", ofNone.place(three), 0);
        fault("a CALL without a NAME is none", 3, store, ofNone.bytes());
        PatchBytes ofLines = new PatchBytes().on(zero, one);
        ofLines.call(ofLines.place(zero), 0, "x", ofLines.place(one), 0);
        fault("an INSERT is no NAMING", 3, store, ofLines.bytes());
        fault("itself", 3, new PatchBytes().add(0, "f").call(OWN, 0, "g", OWN, 1).bytes());
        fault("a later one", 3, new PatchBytes().call(OWN, 1, "g", OWN, 1).add(0, "f").bytes());
        fault("an earlier one", 0, new PatchBytes().add(0, "f").call(OWN, 0, "g", OWN, 0).call(OWN, 0, "h", OWN, 1)
            .bytes());
    }

    private static void refsOfLines() {
        PatchStore store = filled();
        byte[] zero = Use.hash(store, 0);
        byte[] one = Use.hash(store, 1);
        PatchBytes places = new PatchBytes().on(zero, one);
        int z = places.place(zero);
        int o = places.place(one);
        int[] a = PatchBytes.line(o, 0, 0);
        int[] b = PatchBytes.line(o, 0, 1);
        int[] c = PatchBytes.line(o, 1, 0);
        fault("UP of another FILE", 3, store, new PatchBytes().on(zero, one).insert(z, 0, c, null, "x").bytes());
        fault("DOWN of another FILE", 3, store, new PatchBytes().on(zero, one).insert(z, 0, a, c, "x").bytes());
        fault("no such line", 3, store, new PatchBytes().on(zero, one).insert(z, 0, a, PatchBytes.line(o, 0, 2), "x")
            .bytes());
        fault("no INSERT", 3, store, new PatchBytes().on(zero, one).insert(z, 0, PatchBytes.line(z, 0, 0), b, "x")
            .bytes());
        fault("no ADD", 3, store, new PatchBytes().on(zero, one).insert(o, 0, a, b, "x").bytes());
        fault("its own LINE", 3, new PatchBytes().add(0, "f").insert(OWN, 0, PatchBytes.line(OWN, 1, 0), null, "x")
            .bytes());
        fault("UP and DOWN", 0, store, new PatchBytes().on(zero, one).insert(z, 0, a, b, "x").bytes());
        fault("DOWN above UP", 0, store, new PatchBytes().on(zero, one).insert(z, 0, b, a, "x").bytes());
        fault("DELETE of no line", 3, store, new PatchBytes().on(one).delete(0, 0, 2).bytes());
        fault("DELETE of no INSERT", 3, store, new PatchBytes().on(zero).delete(0, 0, 0).bytes());
        fault("DELETE beyond", 3, store, new PatchBytes().on(one).delete(0, 2, 0).bytes());
        fault("DELETE", 0, store, new PatchBytes().on(one).delete(0, 1, 0).bytes());
        fault("ORDER of one LINE", 3, store, new PatchBytes().on(one).order(PatchBytes.line(0, 0, 1),
            PatchBytes.line(0, 0, 1)).bytes());
        fault("ORDER of two FILES", 3, store, new PatchBytes().on(one).order(PatchBytes.line(0, 0, 0),
            PatchBytes.line(0, 1, 0)).bytes());
        fault("ORDER of no line", 3, store, new PatchBytes().on(one).order(PatchBytes.line(0, 0, 0),
            PatchBytes.line(0, 0, 2)).bytes());
        fault("ORDER", 0, store, new PatchBytes().on(one).order(PatchBytes.line(0, 0, 1),
            PatchBytes.line(0, 0, 0)).bytes());
    }

    private static void unnamed() {
        PatchStore store = filled();
        byte[] zero = Use.hash(store, 0);
        byte[] two = Use.hash(store, 2);
        PatchBytes patch = new PatchBytes().on(zero, two);
        int z = patch.place(zero);
        fault("one is not named", 4, store, patch.call(z, 0, "x", z, 0).bytes());
        fault("the only one is not named", 4, store, new PatchBytes().on(zero).add(0, "x").bytes());
        fault("none", 0, store, new PatchBytes().add(0, "x").bytes());
    }

    private static void orderOfFaults() {
        PatchStore store = filled();
        byte[] none = new byte[32];
        byte[] zero = Use.hash(store, 0);
        fault("1 before 2", 1, store, new PatchBytes().on(none).add(0, "").bytes());
        fault("2 before 3", 2, store, new PatchBytes().on(none).delete(7, 7, 7).bytes());
        fault("3 before 4", 3, store, new PatchBytes().on(zero).delete(OWN, 7, 7).bytes());
        fault("1 before 3", 1, store, new PatchBytes().on(zero).delete(9, 9, 9).add(0, " ").bytes());
    }

    private static void faultOfLastRead() {
        PatchStore store = new PatchStore();
        fault("wrong", 1, store, Use.raw(1));
        Check.due("it stays", store.fault(), 1);
        Use.add(store, 0, 0, "f");
        Check.due("other calls leave it", store.fault(), 1);
        store.show(0);
        Check.due("a good read", store.read(0), 0);
        Check.due("ends it", store.fault(), 0);
        fault("wrong", 1, store, Use.raw(1));
        Check.noSuchElement("a read that throws another exception", () -> store.read(8));
        Check.due("ends it too", store.fault(), 0);
    }

    private static void show() {
        PatchStore store = filled();
        byte[] due = new PatchBytes().add(0, "f").add(0, "g").bytes();
        Check.due("length", store.show(0), due.length);
        Check.due("the BYTES", store.read(2), 0);
        Check.noSuchElement("show", () -> store.show(4));
        Check.noSuchElement("show", () -> store.show(-1));
        store.drop(0, 2);
        Check.due("of a PATCH in no SET", store.show(2), 2 + 32 + 2 + 12);
        Check.due("it can be read again", store.read(0), 2);
    }
}
