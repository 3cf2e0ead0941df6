import java.util.ArrayList;
import java.util.Arrays;
import java.util.List;
import java.util.Random;
import java.util.Set;

/** Promises 1 to 19: random runs of calls, right and wrong ones, answered as the plain model answers them. */
public final class ModelTest {
    private static final String[] NAMES = {"f", "g", "read.me", "~", "f"};
    private static final String[] LINES = {"a\n", "b\n", "c\n", "\n", "a", "dd\n"};
    private static final int REPOSITORIES = 3;

    private final Random random;
    private final Twin twin;
    private final Model model;

    private ModelTest(long seed) {
        random = new Random(seed);
        twin = new Twin("run " + seed);
        model = twin.model;
    }

    public static void main(String[] args) {
        int runs = args.length > 0 ? Integer.parseInt(args[0]) : 300;
        for (int seed = 0; seed < runs; seed++) {
            new ModelTest(seed).run();
        }
        Check.finish();
    }

    private void run() {
        twin.lay(Use.bytes("f"));
        twin.ask("add", 0, 0);
        twin.lay(Use.bytes("a\nb\nc\n"));
        twin.ask("record", 0, 0);
        for (int repository = 1; repository < REPOSITORIES; repository++) {
            twin.ask("pull", repository, 0, -1);
        }
        for (int turn = 0; turn < 500 && !twin.isUsedUp(); turn++) {
            act(random.nextInt(100));
            if (random.nextInt(6) == 0) {
                look(random.nextInt(REPOSITORIES));
            }
        }
    }

    private void act(int which) {
        int repository = random.nextInt(30) == 0 ? random.nextInt(11) - 2 : random.nextInt(REPOSITORIES);
        if (which < 3) {
            twin.lay(Use.bytes(name()));
            twin.ask("add", repository, random.nextInt(3));
        } else if (which < 40) {
            int k = fileNumber(repository);
            layEdited(repository, k);
            twin.ask("record", repository, k);
        } else if (which < 46) {
            twin.lay(Use.bytes(random.nextInt(20) == 0 ? "" : name()));
            twin.ask("call", repository, fileNumber(repository));
        } else if (which < 56) {
            twin.ask("pull", repository, random.nextInt(REPOSITORIES), random.nextInt(2) == 0 ? -1 : patchNumber());
        } else if (which < 66) {
            twin.ask("drop", repository, patchNumber());
        } else if (which < 96) {
            readSomething(repository);
        } else {
            askAtRandom();
        }
    }

    private int patchNumber() {
        return random.nextInt(model.stock.size() + 2) - 1 + (random.nextInt(40) == 0 ? 500 : 0);
    }

    private int fileNumber(int repository) {
        int files = repository < 0 || repository > 7 ? 1 : files(repository);
        return random.nextInt(25) == 0 ? random.nextInt(4) - 1 : random.nextInt(Math.max(files, 1));
    }

    private int files(int repository) {
        return Model.filesThere(model.sets.get(repository)).size();
    }

    private String name() {
        int kind = random.nextInt(40);
        if (kind == 0) {
            return "x".repeat(63 + random.nextInt(3));
        }
        return kind == 1 ? " " : kind == 2 ? "\u007f" : kind == 3 ? "a\n" : NAMES[random.nextInt(NAMES.length)];
    }

    private void layEdited(int repository, int k) {
        List<String> lines = new ArrayList<>();
        if (repository >= 0 && repository < 8 && k >= 0 && k < files(repository)) {
            lines.addAll(model.textLines(repository, k));
        }
        int edits = random.nextInt(4);
        for (int i = 0; i < edits; i++) {
            int at = random.nextInt(lines.size() + 1);
            int kind = random.nextInt(4);
            if (kind == 0 && at < lines.size()) {
                lines.remove(at);
            } else if (kind == 1 && at + 1 < lines.size()) {
                lines.add(at, lines.remove(at + 1));
            } else if (lines.size() < 14) {
                lines.add(at, LINES[random.nextInt(LINES.length)]);
            }
        }
        twin.lay(Use.bytes(String.join("", lines.subList(0, Math.min(14, lines.size())))));
    }

    private void readSomething(int repository) {
        int kind = random.nextInt(4);
        if (kind == 0 && !model.stock.isEmpty()) {
            twin.ask("show", patchNumber());
        } else if (kind == 1 && !model.stock.isEmpty()) {
            byte[] bytes = model.stock.get(random.nextInt(model.stock.size())).bytes.clone();
            bytes[random.nextInt(bytes.length)] += (byte) (random.nextBoolean() ? 1 : random.nextInt(256));
            twin.lay(random.nextInt(4) == 0 ? Arrays.copyOf(bytes, random.nextInt(bytes.length + 3)) : bytes);
        } else {
            twin.lay(patch(repository < 0 || repository > 7 ? 0 : repository));
        }
        twin.ask("read", repository);
        twin.ask("fault");
        if (random.nextInt(3) == 0) {
            twin.ask("count", 0);
        }
    }

    /** BYTES with REFS of which most, but not all, name what they may name. */
    private byte[] patch(int repository) {
        List<Model.Patch> all = new ArrayList<>(model.sets.get(repository));
        all.sort(Model.BY_HASH);
        List<Model.Patch> on = new ArrayList<>();
        for (Model.Patch patch : all) {
            if (random.nextInt(all.size()) < 3 && on.size() < 4) {
                on.add(patch);
            }
        }
        if (random.nextInt(25) == 0 && !model.stock.isEmpty()) {
            on.add(model.stock.get(random.nextInt(model.stock.size())));
        }
        PatchBytes out = new PatchBytes();
        byte[][] hashes = on.stream().map(p -> p.hash).toArray(byte[][]::new);
        if (random.nextInt(25) == 0) {
            out.onAsGiven(hashes);
        } else {
            out.on(hashes);
            on.sort(Model.BY_HASH);
        }
        List<Target> targets = new ArrayList<>();
        for (int k = 0; k < on.size(); k++) {
            for (Model.Change change : on.get(k).changes) {
                addTargets(targets, k, change.number, change.kind, change.lines.size(), change.file);
            }
        }
        int changes = 1 + random.nextInt(6);
        for (int i = 0; i < changes; i++) {
            putChange(out, targets, i);
        }
        return random.nextInt(25) == 0 ? out.bytes(changes + random.nextInt(3) - 1) : out.bytes();
    }

    /** A CHANGE, or a LINE of it, that a REF can name. */
    private static final class Target {
        final int kind;
        final int k;
        final int change;
        final int line;
        final Object file;

        Target(int kind, int k, int change, int line, Object file) {
            this.kind = kind;
            this.k = k;
            this.change = change;
            this.line = line;
            this.file = file;
        }

        int[] ref() {
            return PatchBytes.line(k, change, line);
        }
    }

    private void addTargets(List<Target> targets, int k, int change, int kind, int lines, Object file) {
        for (int line = 0; line < Math.max(lines, 1); line++) {
            targets.add(new Target(kind, k, change, line, file));
        }
    }

    private void putChange(PatchBytes out, List<Target> targets, int number) {
        int kind = targets.isEmpty() || random.nextInt(12) == 0 ? 0 : 1 + random.nextInt(4);
        Target add = target(targets, 0, null);
        Object file = kind == 0 ? new Object() : add.file;
        int lines = 0;
        switch (kind) {
            case 0:
                out.add(random.nextInt(2), name().replace(" ", "x"));
                break;
            case 1:
                int[] refs = new int[2 * (random.nextInt(25) == 0 ? 0 : 1 + random.nextInt(2))];
                for (int i = 0; i < refs.length; i += 2) {
                    Target naming = target(targets, random.nextInt(2), file);
                    refs[i] = naming.k;
                    refs[i + 1] = naming.change;
                }
                out.call(add.k, add.change, random.nextInt(8) == 0 ? "" : name(), refs);
                break;
            case 2:
                String[] texts = new String[random.nextInt(40) == 0 ? 0 : 1 + random.nextInt(3)];
                Arrays.setAll(texts, i -> lineText());
                lines = texts.length;
                int[] up = random.nextInt(3) == 0 ? null : target(targets, 2, file).ref();
                int[] down = random.nextInt(3) == 0 ? null : target(targets, 2, file).ref();
                out.insert(add.k, add.change, up, down, texts);
                break;
            case 3:
                int[] line = target(targets, 2, null).ref();
                out.delete(line[0], line[1], line[2]);
                break;
            default:
                Target one = target(targets, 2, null);
                out.order(one.ref(), target(targets, 2, one.file).ref());
        }
        addTargets(targets, PatchBytes.OWN, number, kind, lines, file);
    }

    private String lineText() {
        int kind = random.nextInt(200);
        return kind == 0 ? "" : kind == 1 ? "\n\n" : kind == 2 ? "y".repeat(499 + random.nextInt(3))
            : LINES[random.nextInt(LINES.length)];
    }

    /** One of that kind and of that FILE, mostly. */
    private Target target(List<Target> targets, int kind, Object file) {
        List<Target> fit = new ArrayList<>(targets);
        fit.removeIf(t -> t.kind != kind || file != null && t.file != file);
        if (random.nextInt(80) == 0) {
            return new Target(kind, random.nextInt(4) - 1, random.nextInt(4), random.nextInt(3), file);
        }
        List<Target> from = fit.isEmpty() ? targets : fit;
        return from.isEmpty() ? new Target(kind, PatchBytes.OWN, 0, 0, file) : from.get(random.nextInt(from.size()));
    }

    private void askAtRandom() {
        int a = random.nextInt(10) - 1;
        int b = random.nextInt(5) - 1;
        int c = random.nextInt(9) - 1;
        int far = random.nextInt(40) - 5;
        switch (random.nextInt(9)) {
            case 0:
                twin.ask("has", a, patchNumber(), random.nextInt(5) - 1);
                break;
            case 1:
                twin.ask("hash", patchNumber(), far);
                break;
            case 2:
                twin.ask("state", a, far);
                break;
            case 3:
                twin.ask("about", a, random.nextInt(6) - 1);
                break;
            case 4:
                twin.ask("file", a, b, c);
                break;
            case 5:
                twin.ask("name", a, b, random.nextInt(4) - 1, random.nextInt(5) - 2);
                break;
            case 6:
                twin.ask("line", a, b, c, random.nextInt(8) - 5);
                break;
            case 7:
                twin.ask("count", random.nextInt(7) - 1);
                break;
            default:
                twin.ask("end", far);
        }
    }

    /** All that can be seen of a REPOSITORY. */
    private void look(int repository) {
        for (int what = 0; what < 4; what++) {
            twin.ask("about", repository, what);
            twin.ask("count", what + 1);
        }
        twin.ask("state", repository, 0);
        twin.ask("state", repository, 31);
        int p = patchNumber();
        for (int what = 0; what < 3; what++) {
            twin.ask("has", repository, p, what);
        }
        int files = files(repository);
        int k = random.nextInt(8) == 0 ? files : random.nextInt(Math.max(files, 1));
        for (int what = 0; what < 7; what++) {
            twin.ask("file", repository, k, what);
        }
        for (int j = 0; j < 2; j++) {
            twin.ask("name", repository, k, j, random.nextInt(2) - 1);
        }
        int lines = k < files ? model.file(repository, k, 0) : 0;
        for (int j = 0; j <= lines; j++) {
            for (int i = -4; i < -1; i++) {
                twin.ask("line", repository, k, j, i);
            }
        }
        twin.ask("line", repository, k, random.nextInt(lines + 1), random.nextInt(7) - 5);
    }
}
