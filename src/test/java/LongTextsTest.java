import java.util.ArrayList;
import java.util.Collections;
import java.util.List;
import java.util.Random;

/**
 * Promises 6, 7, 16 and 18 for texts of some hundred LINES, up to the limits of RECORDING and of a FILE: random runs
 * in which REPOSITORIES part and come together, answered as the plain model answers them.
 */
public final class LongTextsTest {
    private static final int REPOSITORIES = 3;

    private final Random random;
    private final Twin twin;
    private final Model model;
    private final int alphabet;

    private LongTextsTest(long seed) {
        random = new Random(seed);
        twin = new Twin("run " + seed);
        model = twin.model;
        alphabet = 1 + random.nextInt(40);
    }

    public static void main(String[] args) {
        int runs = args.length > 0 ? Integer.parseInt(args[0]) : 15;
        for (int seed = 0; seed < runs; seed++) {
            new LongTextsTest(seed).run();
        }
        Check.finish();
    }

    private void run() {
        twin.lay(Use.bytes("long"));
        twin.ask("add", 0, 0);
        record(0, newLines(random.nextInt(150)));
        for (int repository = 1; repository < REPOSITORIES; repository++) {
            twin.ask("pull", repository, 0, -1);
        }
        for (int turn = 0; turn < 60 && !twin.isUsedUp(); turn++) {
            act();
            look(random.nextInt(REPOSITORIES));
        }
    }

    private void act() {
        int repository = random.nextInt(REPOSITORIES);
        int kind = random.nextInt(10);
        if (kind < 5) {
            record(repository, edited(model.textLines(repository, 0)));
        } else if (kind < 7) {
            twin.ask("pull", repository, random.nextInt(REPOSITORIES), -1);
        } else if (kind < 9) {
            readOrders(repository);
        } else {
            // All but PATCH 0, without which there would be no FILE.
            twin.ask("drop", repository, 1 + random.nextInt(model.stock.size()));
        }
    }

    private List<String> newLines(int total) {
        List<String> lines = new ArrayList<>();
        for (int i = 0; i < total; i++) {
            lines.add((char) ('0' + random.nextInt(alphabet)) + "\n");
        }
        return lines;
    }

    private List<String> edited(List<String> lines) {
        int edits = 1 + random.nextInt(6);
        for (int i = 0; i < edits; i++) {
            int from = random.nextInt(lines.size() + 1);
            int to = Math.min(lines.size(), from + random.nextInt(30));
            List<String> part = new ArrayList<>(lines.subList(from, to));
            int kind = random.nextInt(4);
            if (kind == 0) {
                lines.addAll(from, newLines(random.nextInt(40)));
            } else {
                lines.subList(from, to).clear();
            }
            if (kind == 2) {
                lines.addAll(random.nextInt(lines.size() + 1), part);
            } else if (kind == 3) {
                Collections.shuffle(part, random);
                lines.addAll(from, part);
            }
        }
        return lines.subList(0, Math.min(lines.size(), 190 + random.nextInt(13)));
    }

    private void record(int repository, List<String> lines) {
        twin.lay(Use.bytes(String.join("", lines)));
        dueHash(twin.ask("record", repository, 0));
    }

    /** A PATCH that leads from LINES to others anywhere in the GRAPH, and so back as well, and deletes some. */
    private void readOrders(int repository) {
        List<Model.Line> lines = new ArrayList<>();
        for (Model.Change file : Model.filesThere(model.sets.get(repository))) {
            lines.addAll(Model.lines(model.sets.get(repository), file));
        }
        if (lines.isEmpty()) {
            return;
        }
        Model.Line first = lines.get(random.nextInt(lines.size()));
        lines.removeIf(line -> line.insert.patch != first.insert.patch);
        PatchBytes out = new PatchBytes().on(first.insert.patch.hash);
        for (int i = random.nextInt(5); i >= 0; i--) {
            int[] one = ref(lines);
            int[] other = ref(lines);
            if (random.nextInt(3) == 0 || java.util.Arrays.equals(one, other)) {
                out.delete(one[0], one[1], one[2]);
            } else {
                out.order(one, other);
            }
        }
        twin.lay(out.bytes());
        twin.ask("read", repository);
    }

    private int[] ref(List<Model.Line> lines) {
        Model.Line line = lines.get(random.nextInt(lines.size()));
        return PatchBytes.line(0, line.insert.number, line.number);
    }

    private void look(int repository) {
        for (int what = 0; what < 5; what++) {
            twin.ask("file", repository, 0, what);
        }
        int j = random.nextInt(model.file(repository, 0, 0) + 1);
        for (int i = -4; i < 1; i++) {
            twin.ask("line", repository, 0, j, i);
        }
        // The DELETES of a whole TEXT name its LINES in their order, so one HASH tells it all.
        twin.ask("end", 0);
        String made = twin.ask("record", repository, 0);
        dueHash(made);
        if (isPatch(made)) {
            twin.ask("drop", repository, Integer.parseInt(made));
        }
    }

    private void dueHash(String made) {
        for (int i = 0; i < 4 && isPatch(made); i++) {
            twin.ask("hash", Integer.parseInt(made), i);
        }
    }

    private static boolean isPatch(String answer) {
        return answer.matches("[0-9]+");
    }
}
