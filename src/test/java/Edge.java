/** The two sides of an edge: a call that is still taken, and one that is refused and leaves all as it was. */
final class Edge {
    /** Numbers that are no REPOSITORY: those next to the first and the last one, and the farthest. */
    static final int[] NO_REPOSITORIES = {-1, 8, Integer.MIN_VALUE, Integer.MAX_VALUE};

    static final String ARGUMENT = "throws.IllegalArgumentException";
    static final String STATE = "throws.IllegalStateException";
    static final String ELEMENT = "throws.NoSuchElementException";
    static final String BOUNDS = "throws.IndexOutOfBoundsException";
    static final String UNSUPPORTED = "throws.UnsupportedOperationException";

    /** The FILE of which tapeIs makes use, in a REPOSITORY of its own. */
    private static final int PROBE = 7;
    private static final int PROBE_SALT = 0x70726f62;

    private Edge() {
    }

    /** The call throws this, and nothing that can be asked is other than before; the fault is not looked at. */
    static void refused(String what, PatchStore store, String exception, Check.Call call) {
        String before = Snapshot.of(store);
        Check.due(what, Check.answer(call), exception);
        Check.due(what + ": what changed", Snapshot.difference(before, Snapshot.of(store)), "");
    }

    /** The same for a call other than read: the fault stays as well. */
    static void refusedWithFault(String what, PatchStore store, String exception, Check.Call call) {
        int fault = store.fault();
        refused(what, store, exception, call);
        Check.due(what + ": fault", store.fault(), fault);
    }

    /** The same for a read that throws IllegalArgumentException. */
    static void faulty(String what, PatchStore store, int repository, int fault) {
        refused(what, store, ARGUMENT, () -> store.read(repository));
        Check.due(what + ": fault", store.fault(), fault);
    }

    /** A new store of which tapeIs can ask. */
    static PatchStore withProbe() {
        PatchStore store = new PatchStore();
        Use.add(store, PROBE, PROBE_SALT, "probe");
        return store;
    }

    /** Whether THE TAPE is this, byte by byte as far as one text can tell it; it is empty afterwards. */
    static void tapeIs(String what, PatchStore store, byte[] due) {
        Check.due(what + ": THE TAPE's length", store.count(0), due.length);
        int seen = Math.min(due.length, 200);
        store.end(Math.min(store.count(0), seen));
        store.record(PROBE, 0);
        Check.due(what + ": THE TAPE", Use.hex(Use.bytes(Use.text(store, PROBE, 0))),
            Use.hex(java.util.Arrays.copyOf(due, seen)));
    }
}
