import java.util.ArrayList;
import java.util.Arrays;
import java.util.List;
import java.util.Random;
import java.util.Set;

/** Promises 1 to 19: random runs of calls, right and wrong ones, answered as the plain model answers them. */
public final class ModelTest {
    private static final String[] NAMES = {"f", "g", "read.me", "~", "f"};
    private static final String[] LINES = {"a\n", "b\n", "c\n", "\n", "a", "dd\n"};
    private static final int CALLS = 512;

    private final Random random;
    private final long seed;
    private final PatchStore store = new PatchStore();
    private final Model model = new Model();
    private int calls = 0;

    private ModelTest(long seed) {
        this.seed = seed;
        this.random = new Random(seed);
    }

    public static void main(String[] args) {
        int runs = args.length > 0 ? Integer.parseInt(args[0]) : 300;
        for (int seed = 0; seed < runs; seed++) {
            new ModelTest(seed).run();
        }
        Check.finish();
    }

    private void run() {
        for (int turn = 0; turn < 500 && calls < CALLS; turn++) {
            act(random.nextInt(100));
            if (random.nextInt(6) == 0) {
                look(random.nextInt(3));
            }
        }
    }

    private void act(int which) {
        int repository = random.nextInt(30) == 0 ? random.nextInt(11) - 2 : random.nextInt(3);
        if (which < 12) {
            lay(Use.bytes(name()));
            ask("add", repository, random.nextInt(3));
        } else if (which < 42) {
            layEdited(repository);
            ask("record", repository, fileNumber(repository));
        } else if (which < 50) {
            lay(Use.bytes(random.nextInt(6) == 0 ? "" : name()));
            ask("call", repository, fileNumber(repository));
        } else if (which < 65) {
            ask("pull", repository, random.nextInt(3), random.nextInt(2) == 0 ? -1 : patchNumber());
        } else if (which < 73) {
            ask("drop", repository, patchNumber());
        } else if (which < 94) {
            readSomething(repository);
        } else {
            askAtRandom();
        }
    }

    private int patchNumber() {
        return random.nextInt(model.stock.size() + 2) - 1 + (random.nextInt(40) == 0 ? 500 : 0);
    }

    private int fileNumber(int repository) {
        int files = repository < 0 || repository > 7 ? 1 : Model.filesThere(model.sets.get(repository)).size();
        return random.nextInt(25) == 0 ? random.nextInt(4) - 1 : random.nextInt(Math.max(files, 1));
    }

    private String name() {
        int kind = random.nextInt(40);
        if (kind == 0) {
            return "x".repeat(63 + random.nextInt(3));
        }
        return kind == 1 ? " " : kind == 2 ? "\u007f" : kind == 3 ? "a\n" : NAMES[random.nextInt(NAMES.length)];
    }

    private void layEdited(int repository) {
        List<String> lines = new ArrayList<>();
        if (repository >= 0 && repository < 8) {
            Set<Model.Patch> set = model.sets.get(repository);
            for (Model.Change file : Model.filesThere(set)) {
                if (random.nextBoolean()) {
                    Model.lines(set, file).forEach(l -> lines.add(new String(l.bytes)));
                }
            }
        }
        int edits = random.nextInt(4);
        for (int i = 0; i < edits; i++) {
            int at = random.nextInt(lines.size() + 1);
            int kind = random.nextInt(4);
            if (kind == 0 && at < lines.size()) {
                lines.remove(at);
            } else if (kind == 1 && at + 1 < lines.size()) {
                lines.add(at, lines.remove(at + 1));
            } else if (lines.size() < 14) {
                lines.add(at, LINES[random.nextInt(LINES.length)]);
            }
        }
        lay(Use.bytes(String.join("", lines.subList(0, Math.min(14, lines.size())))));
    }

    private void lay(byte[] bytes) {
        ask("end", 0);
        for (int at = 0; at < bytes.length; at += 20) {
            int[] words = new int[5];
            for (int i = 0; i < 20; i++) {
                int value = at + i < bytes.length ? bytes[at + i] & 255 : 0;
                words[i / 4] |= value << (24 - 8 * (i % 4));
            }
            ask("feed", words);
        }
        ask("end", bytes.length);
    }

    private void readSomething(int repository) {
        int kind = random.nextInt(4);
        if (kind == 0 && !model.stock.isEmpty()) {
            ask("show", patchNumber());
        } else if (kind == 1 && !model.stock.isEmpty()) {
            byte[] bytes = model.stock.get(random.nextInt(model.stock.size())).bytes.clone();
            bytes[random.nextInt(bytes.length)] += (byte) (random.nextBoolean() ? 1 : random.nextInt(256));
            lay(random.nextInt(4) == 0 ? Arrays.copyOf(bytes, random.nextInt(bytes.length + 3)) : bytes);
        } else {
            lay(patch(repository < 0 || repository > 7 ? 0 : repository));
        }
        ask("read", repository);
        ask("fault");
        if (random.nextInt(3) == 0) {
            ask("count", 0);
        }
    }

    /** BYTES with REFS of which most, but not all, name what they may name. */
    private byte[] patch(int repository) {
        List<Model.Patch> all = new ArrayList<>(model.sets.get(repository));
        all.sort(Model.BY_HASH);
        List<Model.Patch> on = new ArrayList<>();
        for (Model.Patch patch : all) {
            if (random.nextInt(all.size()) < 3 && on.size() < 4) {
                on.add(patch);
            }
        }
        if (random.nextInt(25) == 0 && !model.stock.isEmpty()) {
            on.add(model.stock.get(random.nextInt(model.stock.size())));
        }
        PatchBytes out = new PatchBytes();
        byte[][] hashes = on.stream().map(p -> p.hash).toArray(byte[][]::new);
        if (random.nextInt(25) == 0) {
            out.onAsGiven(hashes);
        } else {
            out.on(hashes);
            on.sort(Model.BY_HASH);
        }
        List<int[]> own = new ArrayList<>();
        int changes = 1 + random.nextInt(5);
        for (int i = 0; i < changes; i++) {
            putChange(out, on, own);
        }
        return random.nextInt(25) == 0 ? out.bytes(changes + random.nextInt(3) - 1) : out.bytes();
    }

    /** own: kind and number of LINES of the CHANGES so far. */
    private void putChange(PatchBytes out, List<Model.Patch> on, List<int[]> own) {
        int kind = own.isEmpty() && on.isEmpty() ? 0 : random.nextInt(5);
        int lines = 0;
        int[] file = ref(on, own, 0);
        switch (kind) {
            case 0:
                out.add(random.nextInt(2), name().replace(" ", "x"));
                break;
            case 1:
                int[] refs = new int[2 * (random.nextInt(12) == 0 ? 0 : 1 + random.nextInt(2))];
                for (int i = 0; i < refs.length; i += 2) {
                    int[] naming = ref(on, own, random.nextInt(2));
                    refs[i] = naming[0];
                    refs[i + 1] = naming[1];
                }
                out.call(file[0], file[1], random.nextInt(4) == 0 ? "" : name(), refs);
                break;
            case 2:
                lines = random.nextInt(30) == 0 ? 0 : 1 + random.nextInt(3);
                String[] texts = new String[lines];
                for (int i = 0; i < lines; i++) {
                    texts[i] = random.nextInt(60) == 0 ? "" : random.nextInt(60) == 0 ? "\n\n"
                        : random.nextInt(60) == 0 ? "y".repeat(499 + random.nextInt(3))
                        : LINES[random.nextInt(LINES.length)];
                }
                int[] up = random.nextBoolean() ? null : ref(on, own, 2);
                int[] down = random.nextBoolean() ? null : ref(on, own, 2);
                out.insert(file[0], file[1], up, down, texts);
                break;
            case 3:
                int[] line = ref(on, own, 2);
                out.delete(line[0], line[1], line[2]);
                break;
            default:
                out.order(ref(on, own, 2), ref(on, own, 2));
        }
        own.add(new int[] {kind, lines});
    }

    private int[] ref(List<Model.Patch> on, List<int[]> own, int kind) {
        List<int[]> fit = new ArrayList<>();
        for (int k = 0; k < on.size(); k++) {
            for (Model.Change change : on.get(k).changes) {
                for (int line = 0; line < Math.max(change.lines.size(), 1) && change.kind == kind; line++) {
                    fit.add(new int[] {k, change.number, line});
                }
            }
        }
        for (int i = 0; i < own.size(); i++) {
            for (int line = 0; line < Math.max(own.get(i)[1], 1) && own.get(i)[0] == kind; line++) {
                fit.add(new int[] {PatchBytes.OWN, i, line});
            }
        }
        if (fit.isEmpty() || random.nextInt(40) == 0) {
            int k = random.nextInt(on.size() + 2);
            return new int[] {k > on.size() ? PatchBytes.OWN : k, random.nextInt(own.size() + 2), random.nextInt(3)};
        }
        return fit.get(random.nextInt(fit.size()));
    }

    private void askAtRandom() {
        int a = random.nextInt(10) - 1;
        int b = random.nextInt(5) - 1;
        int c = random.nextInt(9) - 1;
        int far = random.nextInt(40) - 5;
        switch (random.nextInt(9)) {
            case 0:
                ask("has", a, patchNumber(), random.nextInt(5) - 1);
                break;
            case 1:
                ask("hash", patchNumber(), far);
                break;
            case 2:
                ask("state", a, far);
                break;
            case 3:
                ask("about", a, random.nextInt(6) - 1);
                break;
            case 4:
                ask("file", a, b, c);
                break;
            case 5:
                ask("name", a, b, random.nextInt(4) - 1, random.nextInt(5) - 2);
                break;
            case 6:
                ask("line", a, b, c, random.nextInt(8) - 5);
                break;
            case 7:
                ask("count", random.nextInt(7) - 1);
                break;
            default:
                ask("end", far);
        }
    }

    /** All that can be seen of a REPOSITORY. */
    private void look(int repository) {
        for (int what = 0; what < 4; what++) {
            ask("about", repository, what);
            ask("count", what + 1);
        }
        ask("state", repository, 0);
        ask("state", repository, 31);
        int p = patchNumber();
        for (int what = 0; what < 3; what++) {
            ask("has", repository, p, what);
        }
        int files = Model.filesThere(model.sets.get(repository)).size();
        int k = random.nextInt(files + 1);
        for (int what = 0; what < 7; what++) {
            ask("file", repository, k, what);
        }
        for (int j = 0; j < 3; j++) {
            ask("name", repository, k, j, random.nextInt(2) - 1);
        }
        int first = random.nextInt(3);
        for (int j = first; j < first + 6; j++) {
            for (int i = -4; i < 2; i++) {
                ask("line", repository, k, j, i);
            }
        }
    }

    private void ask(String call, int... args) {
        calls++;
        String got = Check.answer(() -> ofStore(call, args));
        String want = Check.answer(() -> ofModel(call, args));
        Check.due("run " + seed + ", call " + calls + ": " + call + Arrays.toString(args), got, want);
    }

    private int ofStore(String call, int[] a) {
        switch (call) {
            case "feed": return store.feed(a[0], a[1], a[2], a[3], a[4]);
            case "end": return store.end(a[0]);
            case "add": return store.add(a[0], a[1]);
            case "call": return store.call(a[0], a[1]);
            case "record": return store.record(a[0], a[1]);
            case "read": return store.read(a[0]);
            case "fault": return store.fault();
            case "show": return store.show(a[0]);
            case "pull": return store.pull(a[0], a[1], a[2]);
            case "drop": return store.drop(a[0], a[1]);
            case "has": return store.has(a[0], a[1], a[2]);
            case "hash": return store.hash(a[0], a[1]);
            case "state": return store.state(a[0], a[1]);
            case "about": return store.about(a[0], a[1]);
            case "file": return store.file(a[0], a[1], a[2]);
            case "name": return store.name(a[0], a[1], a[2], a[3]);
            case "line": return store.line(a[0], a[1], a[2], a[3]);
            case "count": return store.count(a[0]);
            default: throw new AssertionError(call);
        }
    }

    private int ofModel(String call, int[] a) {
        switch (call) {
            case "feed": return model.feed(a);
            case "end": return model.end(a[0]);
            case "add": return model.add(a[0], a[1]);
            case "call": return model.call(a[0], a[1]);
            case "record": return model.record(a[0], a[1]);
            case "read": return model.read(a[0]);
            case "fault": return model.fault();
            case "show": return model.show(a[0]);
            case "pull": return model.pull(a[0], a[1], a[2]);
            case "drop": return model.drop(a[0], a[1]);
            case "has": return model.has(a[0], a[1], a[2]);
            case "hash": return model.hash(a[0], a[1]);
            case "state": return model.state(a[0], a[1]);
            case "about": return model.about(a[0], a[1]);
            case "file": return model.file(a[0], a[1], a[2]);
            case "name": return model.name(a[0], a[1], a[2], a[3]);
            case "line": return model.line(a[0], a[1], a[2], a[3]);
            case "count": return model.count(a[0]);
            default: throw new AssertionError(call);
        }
    }
}
