import java.security.MessageDigest;
import java.security.NoSuchAlgorithmException;
import java.util.ArrayList;
import java.util.Arrays;
import java.util.Collections;
import java.util.Comparator;
import java.util.HashMap;
import java.util.HashSet;
import java.util.List;
import java.util.Map;
import java.util.NoSuchElementException;
import java.util.Set;
import java.util.TreeSet;

/** The document said once more, as plainly as can be and with the whole library, to compare PatchStore with. */
final class Model {
    static final Comparator<Patch> BY_HASH = (a, b) -> Arrays.compareUnsigned(a.hash, b.hash);
    static final Comparator<Change> BY_KEY =
        Comparator.comparing((Change c) -> c.patch, BY_HASH).thenComparingInt(c -> c.number);
    static final Comparator<Line> LINE_BY_KEY =
        Comparator.comparing((Line l) -> l.insert, BY_KEY).thenComparingInt(l -> l.number);

    static final class Patch {
        byte[] bytes;
        byte[] hash;
        int number;
        final List<Patch> dependencies = new ArrayList<>();
        final List<Change> changes = new ArrayList<>();

        Set<Patch> leansOn() {
            Set<Patch> found = new HashSet<>();
            List<Patch> open = new ArrayList<>(dependencies);
            while (!open.isEmpty()) {
                Patch patch = open.remove(open.size() - 1);
                if (found.add(patch)) {
                    open.addAll(patch.dependencies);
                }
            }
            return found;
        }
    }

    static final class Change {
        Patch patch;
        int number;
        int kind;
        byte[] name = new byte[0];
        /** The ADD of the FILE that this CHANGE adds or is about. */
        Change file;
        final List<Change> over = new ArrayList<>();
        Line up;
        Line down;
        final List<Line> lines = new ArrayList<>();
        /** The LINE of a DELETE, the LINES of an ORDER. */
        Line one;
        Line two;

        boolean isNaming() {
            return (kind == 0 || kind == 1) && name.length > 0;
        }
    }

    static final class Line {
        Change insert;
        int number;
        byte[] bytes;
    }

    static final class Fault extends Exception {
        private static final long serialVersionUID = 1L;
        final int number;

        Fault(int number) {
            this.number = number;
        }
    }

    private byte[] tape = new byte[0];
    private int fault = 0;
    final List<Patch> stock = new ArrayList<>();
    final List<Set<Patch>> sets = new ArrayList<>();

    Model() {
        for (int i = 0; i < 8; i++) {
            sets.add(new HashSet<>());
        }
    }

    // The face.

    int feed(int... words) {
        if (tape.length + 20 > 65536) {
            throw new IllegalStateException();
        }
        for (int word : words) {
            tape = Use.join(tape, Use.raw(word >> 24, word >> 16, word >> 8, word));
        }
        return tape.length;
    }

    int end(int n) {
        if (n < 0 || n > tape.length) {
            throw new IllegalArgumentException();
        }
        tape = Arrays.copyOf(tape, n);
        return n;
    }

    int add(int repository, int salt) {
        Set<Patch> set = set(repository);
        if (!isName(tape)) {
            throw new IllegalArgumentException();
        }
        PatchBytes out = new PatchBytes();
        out.add(salt, latin(tape));
        return take(set, out.bytes());
    }

    int call(int repository, int k) {
        Set<Patch> set = set(repository);
        Change file = fileAt(set, k);
        if (tape.length > 0 && !isName(tape)) {
            throw new IllegalArgumentException();
        }
        List<Change> namings = namingsThere(set, file);
        if (namings.size() > 255) {
            throw new IllegalStateException();
        }
        TreeSet<Patch> named = new TreeSet<>(BY_HASH);
        named.add(file.patch);
        namings.forEach(n -> named.add(n.patch));
        List<Patch> dependencies = new ArrayList<>(named);
        PatchBytes out = new PatchBytes().on(hashesOf(dependencies));
        int[] refs = new int[2 * namings.size()];
        for (int i = 0; i < namings.size(); i++) {
            refs[2 * i] = dependencies.indexOf(namings.get(i).patch);
            refs[2 * i + 1] = namings.get(i).number;
        }
        out.call(dependencies.indexOf(file.patch), file.number, latin(tape), refs);
        return take(set, out.bytes());
    }

    int record(int repository, int k) {
        Set<Patch> set = set(repository);
        Change file = fileAt(set, k);
        List<byte[]> fresh = split(tape);
        for (byte[] line : fresh) {
            if (line.length > 500) {
                throw new IllegalArgumentException();
            }
        }
        List<Line> old = new ArrayList<>();
        text(set, file, old);
        if (old.size() > 200 || fresh.size() > 200) {
            throw new UnsupportedOperationException();
        }
        byte[] made = recording(set, file, old, fresh);
        if (made == null) {
            tape = new byte[0];
            return -1;
        }
        return take(set, made);
    }

    int read(int repository) {
        fault = 0;
        Set<Patch> set = set(repository);
        try {
            return take(set, tape);
        } catch (IllegalArgumentException e) {
            fault = lastParse;
            throw e;
        }
    }

    int fault() {
        return fault;
    }

    int show(int p) {
        Patch patch = patchAt(p);
        if (patch.bytes.length > 65536) {
            throw new UnsupportedOperationException();
        }
        tape = patch.bytes.clone();
        return tape.length;
    }

    int pull(int to, int from, int p) {
        Set<Patch> target = set(to);
        Set<Patch> source = set(from);
        Set<Patch> wanted = new HashSet<>();
        if (p < 0) {
            wanted.addAll(source);
        } else {
            if (p >= stock.size() || !source.contains(stock.get(p))) {
                throw new NoSuchElementException();
            }
            wanted.add(stock.get(p));
            wanted.addAll(stock.get(p).leansOn());
        }
        int before = target.size();
        target.addAll(wanted);
        return target.size() - before;
    }

    int drop(int repository, int p) {
        Set<Patch> set = set(repository);
        if (p < 0 || p >= stock.size() || !set.contains(stock.get(p))) {
            throw new NoSuchElementException();
        }
        for (Patch other : set) {
            if (other.dependencies.contains(stock.get(p))) {
                throw new IllegalStateException();
            }
        }
        set.remove(stock.get(p));
        return set.size();
    }

    int has(int repository, int p, int what) {
        Set<Patch> set = set(repository);
        Patch patch = patchAt(p);
        switch (what) {
            case 0:
                return set.contains(patch) ? 1 : 0;
            case 1:
                return (int) set.stream().filter(q -> q.leansOn().contains(patch)).count();
            case 2:
                return patch.leansOn().size();
            default:
                throw new IllegalArgumentException();
        }
    }

    int hash(int p, int i) {
        return byteAt(patchAt(p).hash, i);
    }

    int state(int repository, int i) {
        List<Patch> all = new ArrayList<>(set(repository));
        all.sort(BY_HASH);
        return byteAt(sha(Use.join(hashesOf(all))), i);
    }

    int about(int repository, int what) {
        Set<Patch> set = set(repository);
        List<Change> files = filesThere(set);
        switch (what) {
            case 0:
                return set.size();
            case 1:
                return files.size();
            case 2:
                return (int) files.stream().filter(f -> namingsThere(set, f).size() > 1).count();
            case 3:
                return (int) files.stream().filter(f -> sharesName(set, files, f)).count();
            default:
                throw new IllegalArgumentException();
        }
    }

    int file(int repository, int k, int what) {
        Set<Patch> set = set(repository);
        Change file = fileAt(set, k);
        List<Line> text = new ArrayList<>();
        int unsure = text(set, file, text);
        switch (what) {
            case 0:
                return text.size();
            case 1:
                return text.stream().mapToInt(l -> l.bytes.length).sum();
            case 2:
                return unsure;
            case 3:
                return (int) text.stream().filter(l -> isStranded(set, l)).count();
            case 4:
                return lines(set, file).size() - text.size();
            case 5:
                return namingsThere(set, file).size();
            case 6:
                return file.patch.number;
            default:
                throw new IllegalArgumentException();
        }
    }

    int name(int repository, int k, int j, int i) {
        Set<Patch> set = set(repository);
        List<Change> namings = namingsThere(set, fileAt(set, k));
        if (j < 0 || j >= namings.size()) {
            throw new NoSuchElementException();
        }
        byte[] name = namings.get(j).name;
        return i == -1 ? name.length : byteAt(name, i);
    }

    int line(int repository, int k, int j, int i) {
        Set<Patch> set = set(repository);
        List<Line> text = new ArrayList<>();
        text(set, fileAt(set, k), text);
        if (j < 0 || j >= text.size()) {
            throw new NoSuchElementException();
        }
        Line line = text.get(j);
        switch (i) {
            case -1:
                return line.bytes.length;
            case -2:
                return line.insert.patch.number;
            case -3:
                return line.insert.number;
            case -4:
                return line.number;
            default:
                return byteAt(line.bytes, i);
        }
    }

    int count(int what) {
        switch (what) {
            case 0:
                return tape.length;
            case 1:
                return stock.size();
            case 2:
                return stock.stream().flatMap(p -> p.changes.stream()).mapToInt(c -> c.lines.size()).sum();
            case 3:
                return (int) stock.stream().flatMap(p -> p.changes.stream()).filter(c -> c.kind == 0).count();
            case 4:
                return stock.stream().mapToInt(p -> p.bytes.length).sum();
            default:
                return -1;
        }
    }

    /** The TEXT of a FILE, LINE by LINE. */
    List<String> textLines(int repository, int k) {
        Set<Patch> set = set(repository);
        List<Line> text = new ArrayList<>();
        text(set, fileAt(set, k), text);
        List<String> lines = new ArrayList<>();
        text.forEach(line -> lines.add(latin(line.bytes)));
        return lines;
    }

    // Terms.

    private Set<Patch> set(int repository) {
        if (repository < 0 || repository > 7) {
            throw new NoSuchElementException();
        }
        return sets.get(repository);
    }

    private Patch patchAt(int p) {
        if (p < 0 || p >= stock.size()) {
            throw new NoSuchElementException();
        }
        return stock.get(p);
    }

    private Change fileAt(Set<Patch> set, int k) {
        List<Change> files = filesThere(set);
        if (k < 0 || k >= files.size()) {
            throw new NoSuchElementException();
        }
        return files.get(k);
    }

    private static int byteAt(byte[] bytes, int i) {
        if (i < 0 || i >= bytes.length) {
            throw new IndexOutOfBoundsException();
        }
        return bytes[i] & 255;
    }

    private static String latin(byte[] bytes) {
        return new String(bytes, java.nio.charset.StandardCharsets.ISO_8859_1);
    }

    static byte[] sha(byte[] bytes) {
        try {
            return MessageDigest.getInstance("SHA-256").digest(bytes);
        } catch (NoSuchAlgorithmException e) {
            throw new AssertionError(e);
        }
    }

    private static byte[][] hashesOf(List<Patch> patches) {
        return patches.stream().map(p -> p.hash).toArray(byte[][]::new);
    }

    private static boolean isName(byte[] bytes) {
        for (byte value : bytes) {
            if (value < 33 || value > 126) {
                return false;
            }
        }
        return bytes.length >= 1 && bytes.length <= 64;
    }

    private static List<Change> changes(Set<Patch> set) {
        List<Change> all = new ArrayList<>();
        set.forEach(p -> all.addAll(p.changes));
        all.sort(BY_KEY);
        return all;
    }

    private static List<Change> namingsThere(Set<Patch> set, Change file) {
        Set<Change> over = new HashSet<>();
        List<Change> there = new ArrayList<>();
        List<Change> all = changes(set);
        all.forEach(c -> over.addAll(c.over));
        for (Change change : all) {
            if (change.isNaming() && change.file == file && !over.contains(change)) {
                there.add(change);
            }
        }
        return there;
    }

    static List<Change> filesThere(Set<Patch> set) {
        List<Change> files = changes(set);
        files.removeIf(c -> c.kind != 0 || namingsThere(set, c).isEmpty());
        return files;
    }

    private static boolean sharesName(Set<Patch> set, List<Change> files, Change file) {
        for (Change other : files) {
            for (Change theirs : namingsThere(set, other)) {
                for (Change ours : namingsThere(set, file)) {
                    if (other != file && Arrays.equals(ours.name, theirs.name)) {
                        return true;
                    }
                }
            }
        }
        return false;
    }

    static List<Line> lines(Set<Patch> set, Change file) {
        List<Line> all = new ArrayList<>();
        for (Change change : changes(set)) {
            if (change.file == file) {
                all.addAll(change.lines);
            }
        }
        return all;
    }

    private static Set<Line> behind(Map<Line, List<Line>> edges, Line from) {
        Set<Line> found = new HashSet<>();
        List<Line> open = new ArrayList<>();
        open.add(from);
        while (!open.isEmpty()) {
            Line line = open.remove(open.size() - 1);
            for (Line next : edges.getOrDefault(line, List.of())) {
                if (found.add(next)) {
                    open.add(next);
                }
            }
        }
        return found;
    }

    /** The LINES to which the edges of the GRAPHS of a SET lead from each LINE. */
    private static Map<Line, List<Line>> edges(Set<Patch> set) {
        Map<Line, List<Line>> edges = new HashMap<>();
        for (Change change : changes(set)) {
            if (change.kind == 2) {
                Line last = change.up;
                for (Line line : change.lines) {
                    addEdge(edges, last, line);
                    last = line;
                }
                addEdge(edges, last, change.down);
            } else if (change.kind == 4) {
                addEdge(edges, change.one, change.two);
            }
        }
        return edges;
    }

    /** TOP and none are null: nothing leads to the one, nothing from the other. */
    private static void addEdge(Map<Line, List<Line>> edges, Line from, Line to) {
        if (from != null && to != null) {
            edges.computeIfAbsent(from, line -> new ArrayList<>()).add(to);
        }
    }

    /** Fills in the TEXT and answers UNSURE. */
    private static int text(Set<Patch> set, Change file, List<Line> text) {
        Set<Line> dead = new HashSet<>();
        set.forEach(p -> p.changes.forEach(c -> {
            if (c.kind == 3) {
                dead.add(c.one);
            }
        }));
        List<Line> left = lines(set, file);
        left.removeAll(dead);
        Map<Line, Set<Line>> awaited = awaited(edges(set), left);
        int unsure = 0;
        while (!left.isEmpty()) {
            List<Line> free = new ArrayList<>(left);
            free.removeIf(line -> !awaited.get(line).isEmpty());
            unsure += free.size() > 1 ? 1 : 0;
            Line least = Collections.min(free, LINE_BY_KEY);
            text.add(least);
            left.remove(least);
            awaited.values().forEach(lines -> lines.remove(least));
        }
        return unsure;
    }

    /** Of each of these LINES those of them that are before it and not also behind it. */
    private static Map<Line, Set<Line>> awaited(Map<Line, List<Line>> edges, List<Line> lines) {
        Map<Line, Set<Line>> behind = new HashMap<>();
        lines.forEach(line -> behind.put(line, behind(edges, line)));
        Map<Line, Set<Line>> awaited = new HashMap<>();
        for (Line line : lines) {
            Set<Line> before = new HashSet<>(lines);
            before.removeIf(other -> !behind.get(other).contains(line) || behind.get(line).contains(other));
            awaited.put(line, before);
        }
        return awaited;
    }

    private static boolean isStranded(Set<Patch> set, Line line) {
        Patch own = line.insert.patch;
        for (Patch patch : set) {
            for (Change change : patch.changes) {
                if (change.kind == 3 && (change.one == line.insert.up || change.one == line.insert.down)
                        && patch != own && !patch.leansOn().contains(own) && !own.leansOn().contains(patch)) {
                    return true;
                }
            }
        }
        return false;
    }

    private static List<byte[]> split(byte[] text) {
        List<byte[]> lines = new ArrayList<>();
        int start = 0;
        for (int i = 0; i < text.length; i++) {
            if (text[i] == 10) {
                lines.add(Arrays.copyOfRange(text, start, i + 1));
                start = i + 1;
            }
        }
        if (start < text.length) {
            lines.add(Arrays.copyOfRange(text, start, text.length));
        }
        return lines;
    }

    // RECORDING.

    private byte[] recording(Set<Patch> set, Change file, List<Line> old, List<byte[]> fresh) {
        int[][] common = new int[old.size() + 2][fresh.size() + 2];
        for (int i = old.size() - 1; i >= 0; i--) {
            for (int j = fresh.size() - 1; j >= 0; j--) {
                common[i][j] = Math.max(common[i + 1][j], common[i][j + 1]);
                if (Arrays.equals(old.get(i).bytes, fresh.get(j))) {
                    common[i][j] = Math.max(common[i][j], 1 + common[i + 1][j + 1]);
                }
            }
        }
        List<Line> deleted = new ArrayList<>();
        // The new text: a kept Line, or the bytes of a new one.
        List<Object> result = new ArrayList<>();
        int i = 0;
        int j = 0;
        while (i < old.size() || j < fresh.size()) {
            if (i < old.size() && j < fresh.size() && Arrays.equals(old.get(i).bytes, fresh.get(j))) {
                result.add(old.get(i++));
                j++;
            } else if (j >= fresh.size() || i < old.size() && common[i + 1][j] >= common[i][j + 1]) {
                deleted.add(old.get(i++));
            } else {
                result.add(fresh.get(j++));
            }
        }
        return write(set, file, deleted, result);
    }

    private byte[] write(Set<Patch> set, Change file, List<Line> deleted, List<Object> result) {
        TreeSet<Patch> named = new TreeSet<>(BY_HASH);
        Map<Line, List<Line>> edges = edges(set);
        // The first time finds who is named, the second one has the numbers right.
        PatchBytes out = null;
        int changes = 0;
        for (int time = 0; time < 2; time++) {
            List<Patch> dependencies = new ArrayList<>(named);
            out = new PatchBytes().on(hashesOf(dependencies));
            changes = 0;
            for (Line line : deleted) {
                int[] ref = ref(named, dependencies, line);
                out.delete(ref[0], ref[1], ref[2]);
                changes++;
            }
            for (int at = 0; at < result.size(); at++) {
                if (result.get(at) instanceof byte[] && (at == 0 || result.get(at - 1) instanceof Line)) {
                    int end = at;
                    List<String> row = new ArrayList<>();
                    while (end < result.size() && result.get(end) instanceof byte[] bytes) {
                        row.add(latin(bytes));
                        end++;
                    }
                    int[] up = at == 0 ? null : ref(named, dependencies, (Line) result.get(at - 1));
                    int[] down = end == result.size() ? null : ref(named, dependencies, (Line) result.get(end));
                    named.add(file.patch);
                    out.insert(dependencies.indexOf(file.patch), file.number, up, down, row.toArray(new String[0]));
                    changes++;
                }
            }
            for (int at = 0; at + 1 < result.size(); at++) {
                if (result.get(at) instanceof Line one && result.get(at + 1) instanceof Line two
                        && !behind(edges, one).contains(two)) {
                    out.order(ref(named, dependencies, one), ref(named, dependencies, two));
                    changes++;
                }
            }
        }
        return changes == 0 ? null : out.bytes();
    }

    private static int[] ref(Set<Patch> named, List<Patch> dependencies, Line line) {
        named.add(line.insert.patch);
        return new int[] {dependencies.indexOf(line.insert.patch), line.insert.number, line.number};
    }

    // PATCHES from BYTES.

    private int lastParse = 0;

    private int take(Set<Patch> set, byte[] bytes) {
        Patch patch;
        try {
            patch = new Parse(bytes, set).patch();
        } catch (Fault e) {
            lastParse = e.number;
            throw new IllegalArgumentException();
        }
        if (patch.number < 0) {
            if (isFullWith(patch)) {
                throw new IllegalStateException();
            }
            patch.number = stock.size();
            stock.add(patch);
        }
        set.add(patch);
        tape = new byte[0];
        return patch.number;
    }

    private boolean isFullWith(Patch patch) {
        List<Patch> all = new ArrayList<>(stock);
        all.add(patch);
        Set<Patch> asSet = new HashSet<>(all);
        List<Change> files = changes(asSet);
        files.removeIf(c -> c.kind != 0);
        int lines = 0;
        boolean full = all.size() > 500 || files.size() > 200;
        for (Change file : files) {
            int own = lines(asSet, file).size();
            lines += own;
            full |= own > 400;
        }
        return full || lines > 4000 || all.stream().mapToInt(p -> p.bytes.length).sum() > 200000;
    }

    private final class Parse {
        private final byte[] bytes;
        private final Set<Patch> set;
        private final Patch patch = new Patch();
        private final Set<Integer> named = new HashSet<>();
        private boolean onlyForm = true;
        private int at;
        private Change change;

        Parse(byte[] bytes, Set<Patch> set) {
            this.bytes = bytes;
            this.set = set;
        }

        Patch patch() throws Fault {
            int start = head();
            body(start);
            for (int k = 0; k < two(0); k++) {
                byte[] hash = Arrays.copyOfRange(bytes, 2 + 32 * k, 34 + 32 * k);
                Patch found = set.stream().filter(p -> Arrays.equals(p.hash, hash)).findAny().orElse(null);
                if (found == null) {
                    throw new Fault(2);
                }
                patch.dependencies.add(found);
            }
            patch.bytes = bytes.clone();
            patch.hash = sha(bytes);
            for (Patch known : stock) {
                if (Arrays.equals(known.hash, patch.hash)) {
                    return known;
                }
            }
            onlyForm = false;
            patch.changes.clear();
            body(start);
            if (named.size() < patch.dependencies.size()) {
                throw new Fault(4);
            }
            patch.number = -1;
            return patch;
        }

        private int head() throws Fault {
            int dependencies = two(0);
            int start = 2 + 32 * dependencies;
            check(start <= bytes.length, 1);
            for (int k = 1; k < dependencies; k++) {
                int here = 2 + 32 * k;
                check(Arrays.compareUnsigned(bytes, here - 32, here, bytes, here, here + 32) < 0, 1);
            }
            return start;
        }

        private void body(int start) throws Fault {
            int total = two(start);
            check(total > 0, 1);
            at = start + 2;
            for (int i = 0; i < total; i++) {
                change = new Change();
                change.patch = patch;
                change.number = i;
                change.kind = one();
                one(change.kind);
                patch.changes.add(change);
            }
            check(at == bytes.length, 1);
        }

        private void one(int kind) throws Fault {
            switch (kind) {
                case 0:
                    at += 4;
                    change.name = name(1);
                    change.file = change;
                    break;
                case 1:
                    change.file = fileRef();
                    int total = one();
                    check(total > 0, 1);
                    for (int i = 0; i < total; i++) {
                        Change naming = changeRef();
                        checkRef(naming != null && naming.isNaming() && naming.file == change.file);
                        checkRef(!change.over.contains(naming));
                        change.over.add(naming);
                    }
                    change.name = name(0);
                    break;
                case 2:
                    change.file = fileRef();
                    change.up = place();
                    change.down = place();
                    insertLines();
                    break;
                case 3:
                    change.one = lineRef();
                    break;
                case 4:
                    change.one = lineRef();
                    change.two = lineRef();
                    checkRef(change.one != change.two);
                    checkRef(onlyForm || change.one.insert.file == change.two.insert.file);
                    break;
                default:
                    throw new Fault(1);
            }
        }

        private void insertLines() throws Fault {
            int total = two(at);
            at += 2;
            check(total > 0, 1);
            for (int i = 0; i < total; i++) {
                int length = two(at);
                at += 2;
                check(length >= 1 && length <= 500 && at + length <= bytes.length, 1);
                Line line = new Line();
                line.insert = change;
                line.number = i;
                line.bytes = Arrays.copyOfRange(bytes, at, at + length);
                for (int j = 0; j + 1 < length; j++) {
                    check(line.bytes[j] != 10, 1);
                }
                at += length;
                change.lines.add(line);
            }
        }

        private Line place() throws Fault {
            int flag = one();
            check(flag <= 1, 1);
            if (flag == 0) {
                return null;
            }
            Line line = lineRef();
            checkRef(onlyForm || line.insert.file == change.file);
            return line;
        }

        private Change changeRef() throws Fault {
            int k = two(at);
            int number = two(at + 2);
            at += 4;
            if (onlyForm) {
                return null;
            }
            checkRef(k == 65535 || k < patch.dependencies.size());
            // Those of this PATCH that are there already are the earlier ones.
            List<Change> all = k == 65535 ? patch.changes : patch.dependencies.get(k).changes;
            checkRef(number < all.size());
            if (k != 65535) {
                named.add(k);
            }
            return all.get(number);
        }

        private Change fileRef() throws Fault {
            Change add = changeRef();
            checkRef(onlyForm || add.kind == 0);
            return add;
        }

        private Line lineRef() throws Fault {
            Change insert = changeRef();
            int number = two(at);
            at += 2;
            checkRef(onlyForm || insert.kind == 2 && number < insert.lines.size());
            return onlyForm ? null : insert.lines.get(number);
        }

        private byte[] name(int least) throws Fault {
            int length = one();
            check(at + length <= bytes.length, 1);
            byte[] name = Arrays.copyOfRange(bytes, at, at + length);
            check(isName(name) || length == 0 && least == 0, 1);
            at += length;
            return name;
        }

        private int one() throws Fault {
            check(at < bytes.length, 1);
            return bytes[at++] & 255;
        }

        private int two(int from) throws Fault {
            check(from + 2 <= bytes.length, 1);
            return (bytes[from] & 255) << 8 | bytes[from + 1] & 255;
        }

        private void check(boolean holds, int number) throws Fault {
            if (!holds) {
                throw new Fault(number);
            }
        }

        private void checkRef(boolean holds) throws Fault {
            check(holds || onlyForm, 3);
        }
    }
}
