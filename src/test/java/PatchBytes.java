import java.io.ByteArrayOutputStream;
import java.util.Arrays;

/** Builds BYTES of a PATCH by hand, well formed or not. */
final class PatchBytes {
    static final int OWN = 65535;

    private final ByteArrayOutputStream changes = new ByteArrayOutputStream();
    private byte[][] dependencies = new byte[0][];
    private int total = 0;

    /** The DEPENDENCIES, which are sorted by HASH: so that place(hash) tells the k of one. */
    PatchBytes on(byte[]... hashes) {
        dependencies = hashes.clone();
        Arrays.sort(dependencies, Arrays::compareUnsigned);
        return this;
    }

    PatchBytes onAsGiven(byte[]... hashes) {
        dependencies = hashes.clone();
        return this;
    }

    int place(byte[] hash) {
        for (int k = 0; k < dependencies.length; k++) {
            if (Arrays.equals(dependencies[k], hash)) {
                return k;
            }
        }
        throw new IllegalArgumentException("no such dependency");
    }

    private PatchBytes put(int value) {
        changes.write(value);
        return this;
    }

    private PatchBytes two(int value) {
        return put(value >> 8).put(value);
    }

    private PatchBytes all(byte[] bytes) {
        changes.write(bytes, 0, bytes.length);
        return this;
    }

    PatchBytes ref(int k, int change) {
        return two(k).two(change);
    }

    PatchBytes ref(int k, int change, int line) {
        return two(k).two(change).two(line);
    }

    /** A CHANGE given byte by byte; REFS may follow. */
    PatchBytes change(int... values) {
        total++;
        return all(Use.raw(values));
    }

    PatchBytes more(int... values) {
        return all(Use.raw(values));
    }

    PatchBytes add(int salt, String name) {
        return change(0).two(salt >>> 16).two(salt).put(name.length()).all(Use.bytes(name));
    }

    /** A CALL of the FILE of that ADD; the NAMINGS as pairs of k and CHANGE. */
    PatchBytes call(int k, int change, String name, int... namings) {
        change(1).ref(k, change).put(namings.length / 2);
        for (int i = 0; i < namings.length; i += 2) {
            ref(namings[i], namings[i + 1]);
        }
        return put(name.length()).all(Use.bytes(name));
    }

    /** An INSERT for the FILE of that ADD; UP and DOWN are null, or k, CHANGE and line. */
    PatchBytes insert(int k, int change, int[] up, int[] down, String... lines) {
        change(2).ref(k, change).place(up).place(down).two(lines.length);
        for (String line : lines) {
            two(line.length()).all(Use.bytes(line));
        }
        return this;
    }

    private PatchBytes place(int[] line) {
        return line == null ? put(0) : put(1).ref(line[0], line[1], line[2]);
    }

    PatchBytes delete(int k, int change, int line) {
        return change(3).ref(k, change, line);
    }

    PatchBytes order(int[] one, int[] two) {
        return change(4).ref(one[0], one[1], one[2]).ref(two[0], two[1], two[2]);
    }

    static int[] line(int k, int change, int line) {
        return new int[] {k, change, line};
    }

    byte[] bytes() {
        return bytes(total);
    }

    /** With another number of CHANGES than there are. */
    byte[] bytes(int changesSaid) {
        ByteArrayOutputStream out = new ByteArrayOutputStream();
        out.write(dependencies.length >> 8);
        out.write(dependencies.length);
        for (byte[] hash : dependencies) {
            out.write(hash, 0, hash.length);
        }
        out.write(changesSaid >> 8);
        out.write(changesSaid);
        byte[] rest = changes.toByteArray();
        out.write(rest, 0, rest.length);
        return out.toByteArray();
    }
}
