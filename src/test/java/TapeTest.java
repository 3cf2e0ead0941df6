/** Promises 1 (a new object), 2 (feed), 3 (end) and 19 (count). */
public final class TapeTest {
    public static void main(String[] args) {
        newObject();
        feedAndEnd();
        tapeOfCalls();
        fullTape();
        counts();
        Check.finish();
    }

    private static void newObject() {
        PatchStore store = new PatchStore();
        for (int what = 0; what < 5; what++) {
            Check.due("new: count(" + what + ")", store.count(what), 0);
        }
        for (int repository = 0; repository < 8; repository++) {
            Check.due("new: about(0)", store.about(repository, 0), 0);
            Check.due("new: about(1)", store.about(repository, 1), 0);
            Check.due("new: state", Use.hex(Use.state(store, repository)),
                "e3b0c44298fc1c149afbf4c8996fb92427ae41e4649b934ca495991b7852b855");
        }
        Check.due("new: fault", store.fault(), 0);
        Check.noSuchElement("new: no PATCH", () -> store.show(0));
    }

    private static void feedAndEnd() {
        PatchStore store = new PatchStore();
        Check.due("feed", store.feed(0x21222324, 0x25262728, 0x292a2b2c, 0x2d2e2f30, 0x31323334), 20);
        Check.due("feed again", store.feed(0x41000000, 0, 0, 0, 0), 40);
        Check.illegalArgument("end beyond", () -> store.end(41));
        Check.illegalArgument("end below", () -> store.end(-1));
        Check.due("a wrong end leaves THE TAPE", store.count(0), 40);
        Check.due("end at the length", store.end(40), 40);
        Check.due("end", store.end(21), 21);
        Check.due("add", store.add(0, 0), 0);
        Check.due("the highest byte first", Use.name(store, 0, 0, 0), "!\"#$%&'()*+,-./01234A");
        Check.due("end of nothing", store.end(0), 0);
        Check.illegalArgument("end beyond nothing", () -> store.end(1));
    }

    private static void tapeOfCalls() {
        PatchStore store = new PatchStore();
        Use.tape(store, "f");
        Check.noSuchElement("add", () -> store.add(8, 0));
        Check.due("a throw leaves THE TAPE", store.count(0), 1);
        store.add(0, 0);
        Check.due("add takes THE TAPE", store.count(0), 0);
        Use.record(store, 0, 0, "a\n");
        Check.due("record takes THE TAPE", store.count(0), 0);
        Check.due("record without a PATCH", Use.record(store, 0, 0, "a\n"), -1);
        Check.due("it takes THE TAPE too", store.count(0), 0);
        Use.call(store, 0, 0, "g");
        Check.due("call takes THE TAPE", store.count(0), 0);
        Use.tape(store, "x");
        Check.due("show", store.show(0), 11);
        Check.due("show sets THE TAPE", store.count(0), 11);
        Check.noSuchElement("show of none", () -> store.show(7));
        Check.due("and leaves it if it throws", store.count(0), 11);
        store.read(1);
        Check.due("read takes THE TAPE", store.count(0), 0);
    }

    /** 3,276 calls of feed: more than the document speaks of, but there is no other way to fill THE TAPE. */
    private static void fullTape() {
        PatchStore store = new PatchStore();
        for (int i = 1; i <= 3276; i++) {
            store.feed(0, 0, 0, 0, 0);
        }
        Check.due("nearly full", store.count(0), 65520);
        Check.illegalState("no room for 20", () -> store.feed(1, 1, 1, 1, 1));
        Check.due("it is as it was", store.count(0), 65520);
        store.end(65517);
        Check.illegalState("room for 19", () -> store.feed(1, 1, 1, 1, 1));
        store.end(65516);
        Check.due("room for 20", store.feed(1, 1, 1, 1, 1), 65536);
        Check.illegalState("full", () -> store.feed(1, 1, 1, 1, 1));
    }

    private static void counts() {
        PatchStore store = new PatchStore();
        Use.add(store, 0, 1, "f");
        Use.add(store, 1, 2, "g");
        Use.record(store, 0, 0, "a\nb\nc\n");
        Use.record(store, 0, 0, "a\nc\n");
        Check.due("PATCHES", store.count(1), 4);
        Check.due("LINES, those that are DEAD too", store.count(2), 3);
        Check.due("FILES, whatever SET has them", store.count(3), 2);
        int bytes = 0;
        for (int p = 0; p < 4; p++) {
            bytes += store.show(p);
        }
        Check.due("BYTES", store.count(4), bytes);
        store.drop(0, 3);
        Check.due("a dropped PATCH stays in THE STOCK", store.count(1), 4);
        Check.due("another what", store.count(5), -1);
        Check.due("another what", store.count(-1), -1);
        Check.due("another what", store.count(Integer.MIN_VALUE), -1);
    }
}
