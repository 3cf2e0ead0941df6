import java.util.Arrays;

/** Promises 4 (add), 5 (call), 15 (about), 17 (name), and of 16 (file) what NAMINGS and ADDS are asked for. */
public final class NamingTest {
    public static void main(String[] args) {
        addMakes();
        addRefuses();
        callMakes();
        callRefuses();
        namingsInConflict();
        sameNameInOneFile();
        namesInConflict();
        namesLikeEachOther();
        namesThatStartAlike();
        filesByKey();
        manyNamings();
        Check.finish();
    }

    private static void addMakes() {
        PatchStore store = new PatchStore();
        Check.due("add", Use.add(store, 0, 0xfedcba98, "f~!"), 0);
        Check.due("its length", store.show(0), 13);
        Check.due("its BYTES", Use.read(store, 3, Use.join(Use.raw(0, 0, 0, 1, 0, 0xfe, 0xdc, 0xba, 0x98, 3),
            Use.bytes("f~!"))), 0);
        Check.due("another salt", Use.add(store, 0, 0, "f~!"), 1);
        Check.due("another NAME", Use.add(store, 0, 0, "f"), 2);
        Check.due("the same once more", Use.add(store, 5, 0, "f~!"), 1);
        Check.due("it comes to the SET", store.has(5, 1, 0), 1);
        Check.due("but not twice to THE STOCK", store.count(1), 3);
        Check.due("nor to a SET", store.about(0, 0), 3);
        String longest = "n".repeat(64);
        Use.add(store, 6, 0, longest);
        Check.due("64 bytes", Use.name(store, 6, 0, 0), longest);
    }

    private static void addRefuses() {
        PatchStore store = new PatchStore();
        for (String name : new String[] {"", "a b", " ", "\u007f", "\n", "a\n", "\u0080", "\u00ff", "n".repeat(65)}) {
            Use.tape(store, name);
            Check.illegalArgument("add of '" + name + "'", () -> store.add(0, 0));
            Check.noSuchElement("no REPOSITORY is named first", () -> store.add(-1, 0));
        }
        Use.tape(store, "f");
        Check.noSuchElement("add", () -> store.add(8, 0));
        Check.noSuchElement("add", () -> store.add(Integer.MAX_VALUE, 0));
        Check.due("nothing came", store.count(1), 0);
    }

    private static void callMakes() {
        PatchStore store = new PatchStore();
        Use.add(store, 0, 1, "f");
        Check.due("call", Use.call(store, 0, 0, "gh"), 1);
        byte[] due = new PatchBytes().on(Use.hash(store, 0)).call(0, 0, "gh", 0, 0).bytes();
        Check.due("its HASH", Use.hex(Use.hash(store, 1)), Use.hex(Model.sha(due)));
        Check.due("its NAME", Use.name(store, 0, 0, 0), "gh");
        Check.due("one NAMING", store.file(0, 0, 5), 1);
        Check.due("the next", Use.call(store, 0, 0, "i"), 2);
        byte[] zero = Use.hash(store, 0);
        byte[] one = Use.hash(store, 1);
        PatchBytes next = new PatchBytes().on(zero, one);
        next.call(next.place(zero), 0, "i", next.place(one), 0);
        Check.due("its HASH", Use.hex(Use.hash(store, 2)), Use.hex(Model.sha(next.bytes())));
        Check.due("without a NAME", Use.call(store, 0, 0, ""), 3);
        Check.due("the FILE is not THERE", store.about(0, 1), 0);
        Check.noSuchElement("call of it", () -> store.call(0, 0));
        store.drop(0, 3);
        Check.due("it is THERE again", Use.name(store, 0, 0, 0), "i");
        Check.due("the same CALL again", Use.call(store, 0, 0, ""), 3);
    }

    private static void callRefuses() {
        PatchStore store = new PatchStore();
        Use.add(store, 0, 1, "f");
        Use.tape(store, "a b");
        Check.illegalArgument("no NAME", () -> store.call(0, 0));
        Check.noSuchElement("FILE is named first", () -> store.call(0, 1));
        Check.noSuchElement("FILE is named first", () -> store.call(0, -1));
        Check.noSuchElement("REPOSITORY is named first", () -> store.call(8, 0));
        Use.tape(store, "n".repeat(65));
        Check.illegalArgument("no NAME", () -> store.call(0, 0));
        Check.due("THE TAPE stays", store.count(0), 65);
        Check.due("nothing came", store.count(1), 1);
    }

    private static void namingsInConflict() {
        PatchStore store = new PatchStore();
        Use.add(store, 0, 1, "f");
        store.pull(1, 0, -1);
        store.pull(2, 0, -1);
        int g = Use.call(store, 0, 0, "g");
        int h = Use.call(store, 1, 0, "hh");
        int none = Use.call(store, 2, 0, "");
        store.pull(0, 1, -1);
        store.pull(0, 2, -1);
        boolean first = Arrays.compareUnsigned(Use.hash(store, g), Use.hash(store, h)) < 0;
        Check.due("two NAMINGS, though another CALL gives none", store.file(0, 0, 5), 2);
        Check.due("by KEY", Use.name(store, 0, 0, 0), first ? "g" : "hh");
        Check.due("by KEY", Use.name(store, 0, 0, 1), first ? "hh" : "g");
        Check.due("length", store.name(0, 0, first ? 1 : 0, -1), 2);
        Check.due("about 2", store.about(0, 2), 1);
        Check.due("no other FILE has one of them", store.about(0, 3), 0);
        Check.noSuchElement("NAMING", () -> store.name(0, 0, 2, 0));
        Check.noSuchElement("NAMING", () -> store.name(0, 0, -1, 0));
        Check.noSuchElement("FILE", () -> store.name(0, 1, 0, 0));
        Check.noSuchElement("FILE", () -> store.name(0, -1, 0, 0));
        Check.noSuchElement("REPOSITORY", () -> store.name(-1, 0, 0, 0));
        Check.outOfBounds("byte", () -> store.name(0, 0, first ? 1 : 0, 2));
        Check.outOfBounds("byte", () -> store.name(0, 0, 0, -2));
        Check.noSuchElement("NAMING is named first", () -> store.name(0, 0, 2, 99));
        int both = Use.call(store, 0, 0, "k");
        Check.due("one CALL is on all", store.has(0, both, 2), 3);
        Check.due("one NAMING", store.file(0, 0, 5), 1);
        byte[] zero = Use.hash(store, 0);
        PatchBytes due = new PatchBytes().on(zero, Use.hash(store, g), Use.hash(store, h));
        int gPlace = due.place(Use.hash(store, g));
        int hPlace = due.place(Use.hash(store, h));
        due.call(due.place(zero), 0, "k", Math.min(gPlace, hPlace), 0, Math.max(gPlace, hPlace), 0);
        Check.due("it names them by KEY", Use.hex(Use.hash(store, both)), Use.hex(Model.sha(due.bytes())));
        Check.due("the SET has what gave none", store.has(0, none, 0), 1);
    }

    private static void sameNameInOneFile() {
        PatchStore store = new PatchStore();
        PatchBytes patch = new PatchBytes().add(0, "f").add(0, "h");
        patch.call(PatchBytes.OWN, 0, "g", PatchBytes.OWN, 0).call(PatchBytes.OWN, 0, "g", PatchBytes.OWN, 0);
        Use.read(store, 0, patch.bytes());
        Check.due("two NAMINGS with one NAME", store.file(0, 0, 5), 2);
        Check.due("are not another FILE's", store.about(0, 3), 0);
        Use.call(store, 0, 1, "g");
        Check.due("now they are", store.about(0, 3), 2);
        Use.call(store, 0, 1, "f");
        Check.due("a NAME that is OVER is not shared", store.about(0, 3), 0);
    }

    private static void namesInConflict() {
        PatchStore store = new PatchStore();
        Use.add(store, 0, 1, "f");
        Use.add(store, 0, 2, "f");
        Use.add(store, 0, 3, "f");
        Use.add(store, 0, 4, "ff");
        Check.due("PATCHES", store.about(0, 0), 4);
        Check.due("FILES", store.about(0, 1), 4);
        Check.due("none has two NAMINGS", store.about(0, 2), 0);
        Check.due("three share a NAME", store.about(0, 3), 3);
        for (int k = 0; k < 4; k++) {
            if (Use.name(store, 0, k, 0).equals("ff")) {
                Use.call(store, 0, k, "f");
                break;
            }
        }
        Check.due("four share a NAME", store.about(0, 3), 4);
        for (int left = 3; left >= 0; left--) {
            Use.call(store, 0, 0, "");
            Check.due("FILES", store.about(0, 1), left);
            Check.due("sharing", store.about(0, 3), left > 1 ? left : 0);
        }
        Check.illegalArgument("about", () -> store.about(0, 4));
        Check.illegalArgument("about", () -> store.about(0, -1));
        Check.noSuchElement("about", () -> store.about(8, 9));
        Check.noSuchElement("about", () -> store.about(-1, 0));
    }

    /** NAMES that are like one another to a sum of their bytes with weights of 31. */
    private static void namesLikeEachOther() {
        PatchStore store = new PatchStore();
        Use.read(store, 0, new PatchBytes().add(0, "ab").add(0, "bC").add(0, "c$").bytes());
        Check.due("different NAMES", store.about(0, 3), 0);
        Use.add(store, 0, 7, "ab");
        Check.due("one NAME twice", store.about(0, 3), 2);
        Use.add(store, 0, 8, "c$");
        Check.due("and another", store.about(0, 3), 4);
        Use.add(store, 0, 9, "bCx");
        Check.due("a longer one", store.about(0, 3), 4);
        PatchBytes many = new PatchBytes();
        for (int i = 0; i < 150; i++) {
            many.add(0, "n" + i);
        }
        Use.read(store, 1, many.bytes());
        Check.due("150 NAMES", store.about(1, 3), 0);
        for (int i = 149; i >= 130; i--) {
            Use.add(store, 1, 5, "n" + i);
        }
        Check.due("20 of them twice", store.about(1, 3), 40);
    }

    private static void namesThatStartAlike() {
        String longest = "The-quick-brown-fox-jumps-over-the-lazy-dog,0123456789;<=>?@[]{}|~".substring(0, 64);
        PatchBytes starts = new PatchBytes();
        for (int length = 64; length > 0; length -= 2) {
            starts.add(0, longest.substring(0, length)).add(0, longest.substring(0, 65 - length));
        }
        PatchStore store = new PatchStore();
        Use.read(store, 0, starts.bytes());
        Check.due("64 NAMES, each the start of the next", store.about(0, 3), 0);
        for (int length = 1; length <= 64; length++) {
            Use.add(store, 0, length, longest.substring(0, length));
            Check.due("as many twice", store.about(0, 3), 2 * length);
        }
    }

    private static void filesByKey() {
        PatchStore store = new PatchStore();
        for (int salt = 0; salt < 12; salt++) {
            Use.add(store, 0, salt, "f" + salt);
        }
        Use.read(store, 0, new PatchBytes().add(0, "one").add(0, "two").add(0, "three").bytes());
        Check.due("FILES", store.about(0, 1), 15);
        for (int k = 1; k < 15; k++) {
            int before = store.file(0, k - 1, 6);
            int here = store.file(0, k, 6);
            int order = Arrays.compareUnsigned(Use.hash(store, before), Use.hash(store, here));
            Check.due("HASHES rise", order < 0 || order == 0 && here == 12 ? 1 : 0, 1);
        }
        StringBuilder names = new StringBuilder();
        for (int k = 0; k < 15; k++) {
            if (store.file(0, k, 6) == 12) {
                names.append(Use.name(store, 0, k, 0)).append(' ');
            }
        }
        Check.due("then the CHANGES' numbers", names.toString(), "one two three ");
        Check.illegalArgument("file", () -> store.file(0, 0, 7));
        Check.illegalArgument("file", () -> store.file(0, 0, -1));
        Check.noSuchElement("file", () -> store.file(0, 15, 9));
        Check.noSuchElement("file", () -> store.file(8, 0, 9));
        Check.noSuchElement("file", () -> store.file(0, -1, 0));
    }

    private static void manyNamings() {
        for (int total = 255; total <= 256; total++) {
            PatchStore store = new PatchStore();
            PatchBytes patch = new PatchBytes().add(0, "f");
            for (int i = 0; i < total; i++) {
                patch.call(PatchBytes.OWN, 0, "n", PatchBytes.OWN, 0);
            }
            Use.read(store, 0, patch.bytes());
            Check.due("NAMINGS that are THERE", store.file(0, 0, 5), total);
            Check.due("with more than one", store.about(0, 2), 1);
            Use.tape(store, "g");
            if (total == 255) {
                Check.due("255 NAMINGS", store.call(0, 0), 1);
                Check.due("are OVER", Use.name(store, 0, 0, 0), "g");
            } else {
                Check.illegalState("256 NAMINGS", () -> store.call(0, 0));
                Check.due("THE TAPE stays", store.count(0), 1);
                Use.tape(store, " ");
                Check.illegalArgument("the NAME is named first", () -> store.call(0, 0));
            }
        }
    }
}
