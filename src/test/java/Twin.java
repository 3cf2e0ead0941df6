import java.util.Arrays;

/**
 * A store and a model that get the same calls: every answer of the one is due to be that of the other, up to the
 * 512th, behind which nothing is promised and nothing is asked.
 */
final class Twin {
    private static final int CALLS = 512;

    final Model model = new Model();
    private final PatchStore store = new PatchStore();
    private final String run;
    private int calls = 0;

    Twin(String run) {
        this.run = run;
    }

    /** THE TAPE of both becomes these bytes. */
    void lay(byte[] bytes) {
        ask("end", 0);
        for (int at = 0; at < bytes.length; at += 20) {
            int[] words = new int[5];
            for (int i = 0; i < 20; i++) {
                int value = at + i < bytes.length ? bytes[at + i] & 255 : 0;
                words[i / 4] |= value << (24 - 8 * (i % 4));
            }
            ask("feed", words);
        }
        ask("end", bytes.length);
    }

    boolean isUsedUp() {
        return calls >= CALLS;
    }

    /** Calls both; the answer of the store. */
    String ask(String call, int... args) {
        if (isUsedUp()) {
            return "";
        }
        calls++;
        String got = Check.answer(() -> ofStore(call, args));
        String want = Check.answer(() -> ofModel(call, args));
        Check.due(run + ", call " + calls + ": " + call + Arrays.toString(args), got, want);
        return got;
    }

    private int ofStore(String call, int[] a) {
        switch (call) {
            case "feed": return store.feed(a[0], a[1], a[2], a[3], a[4]);
            case "end": return store.end(a[0]);
            case "add": return store.add(a[0], a[1]);
            case "call": return store.call(a[0], a[1]);
            case "record": return store.record(a[0], a[1]);
            case "read": return store.read(a[0]);
            case "fault": return store.fault();
            case "show": return store.show(a[0]);
            case "pull": return store.pull(a[0], a[1], a[2]);
            case "drop": return store.drop(a[0], a[1]);
            case "has": return store.has(a[0], a[1], a[2]);
            case "hash": return store.hash(a[0], a[1]);
            case "state": return store.state(a[0], a[1]);
            case "about": return store.about(a[0], a[1]);
            case "file": return store.file(a[0], a[1], a[2]);
            case "name": return store.name(a[0], a[1], a[2], a[3]);
            case "line": return store.line(a[0], a[1], a[2], a[3]);
            case "count": return store.count(a[0]);
            default: throw new AssertionError(call);
        }
    }

    private int ofModel(String call, int[] a) {
        switch (call) {
            case "feed": return model.feed(a);
            case "end": return model.end(a[0]);
            case "add": return model.add(a[0], a[1]);
            case "call": return model.call(a[0], a[1]);
            case "record": return model.record(a[0], a[1]);
            case "read": return model.read(a[0]);
            case "fault": return model.fault();
            case "show": return model.show(a[0]);
            case "pull": return model.pull(a[0], a[1], a[2]);
            case "drop": return model.drop(a[0], a[1]);
            case "has": return model.has(a[0], a[1], a[2]);
            case "hash": return model.hash(a[0], a[1]);
            case "state": return model.state(a[0], a[1]);
            case "about": return model.about(a[0], a[1]);
            case "file": return model.file(a[0], a[1], a[2]);
            case "name": return model.name(a[0], a[1], a[2], a[3]);
            case "line": return model.line(a[0], a[1], a[2], a[3]);
            case "count": return model.count(a[0]);
            default: throw new AssertionError(call);
        }
    }
}
