import java.io.ByteArrayOutputStream;
import java.nio.charset.StandardCharsets;

/** Short ways to use a store: whole texts and NAMES in place of bytes, twenty at a time. */
final class Use {
    private Use() {
    }

    static byte[] bytes(String text) {
        return text.getBytes(StandardCharsets.ISO_8859_1);
    }

    /** THE TAPE becomes these bytes. */
    static void tape(PatchStore store, byte[] bytes) {
        store.end(0);
        for (int at = 0; at < bytes.length; at += 20) {
            store.feed(word(bytes, at), word(bytes, at + 4), word(bytes, at + 8), word(bytes, at + 12),
                word(bytes, at + 16));
        }
        store.end(bytes.length);
    }

    static void tape(PatchStore store, String text) {
        tape(store, bytes(text));
    }

    private static int word(byte[] bytes, int at) {
        int word = 0;
        for (int i = at; i < at + 4; i++) {
            word = word << 8 | (i < bytes.length ? bytes[i] & 255 : 0);
        }
        return word;
    }

    static int add(PatchStore store, int repository, int salt, String name) {
        tape(store, name);
        return store.add(repository, salt);
    }

    static int call(PatchStore store, int repository, int k, String name) {
        tape(store, name);
        return store.call(repository, k);
    }

    static int record(PatchStore store, int repository, int k, String text) {
        tape(store, text);
        return store.record(repository, k);
    }

    static int read(PatchStore store, int repository, byte[] patch) {
        tape(store, patch);
        return store.read(repository);
    }

    /** The fault that a read of these bytes has; 0 if it has none, -1 if it throws something else. */
    static int faultOf(PatchStore store, int repository, byte[] patch) {
        try {
            read(store, repository, patch);
            return store.fault();
        } catch (IllegalArgumentException e) {
            return store.fault();
        } catch (RuntimeException e) {
            return -1;
        }
    }

    static String text(PatchStore store, int repository, int k) {
        StringBuilder text = new StringBuilder();
        int lines = store.file(repository, k, 0);
        for (int j = 0; j < lines; j++) {
            int length = store.line(repository, k, j, -1);
            for (int i = 0; i < length; i++) {
                text.append((char) store.line(repository, k, j, i));
            }
        }
        return text.toString();
    }

    static String name(PatchStore store, int repository, int k, int j) {
        StringBuilder name = new StringBuilder();
        int length = store.name(repository, k, j, -1);
        for (int i = 0; i < length; i++) {
            name.append((char) store.name(repository, k, j, i));
        }
        return name.toString();
    }

    /** The number, among the FILES that are THERE, of the one that this PATCH ADDS. */
    static int fileOf(PatchStore store, int repository, int p) {
        for (int k = 0; k < store.about(repository, 1); k++) {
            if (store.file(repository, k, 6) == p) {
                return k;
            }
        }
        throw new IllegalArgumentException("no such file");
    }

    static byte[] hash(PatchStore store, int p) {
        byte[] hash = new byte[32];
        for (int i = 0; i < 32; i++) {
            hash[i] = (byte) store.hash(p, i);
        }
        return hash;
    }

    static byte[] state(PatchStore store, int repository) {
        byte[] state = new byte[32];
        for (int i = 0; i < 32; i++) {
            state[i] = (byte) store.state(repository, i);
        }
        return state;
    }

    static byte[] join(byte[]... parts) {
        ByteArrayOutputStream out = new ByteArrayOutputStream();
        for (byte[] part : parts) {
            out.write(part, 0, part.length);
        }
        return out.toByteArray();
    }

    /** Bytes from numbers. */
    static byte[] raw(int... values) {
        byte[] bytes = new byte[values.length];
        for (int i = 0; i < values.length; i++) {
            bytes[i] = (byte) values[i];
        }
        return bytes;
    }

    static String hex(byte[] bytes) {
        StringBuilder text = new StringBuilder();
        for (byte value : bytes) {
            text.append(String.format("%02x", value & 255));
        }
        return text.toString();
    }
}
