/** All that the face tells of a store, as one text: two of them tell whether a call changed anything. */
final class Snapshot {
    private Snapshot() {
    }

    static String of(PatchStore store) {
        StringBuilder out = new StringBuilder("count");
        for (int what = 0; what < 5; what++) {
            out.append(' ').append(store.count(what));
        }
        out.append('\n');
        for (int p = 0; p < store.count(1); p++) {
            out.append("PATCH ").append(p).append(' ').append(Use.hex(Use.hash(store, p))).append('\n');
        }
        for (int repository = 0; repository < 8; repository++) {
            addRepository(out, store, repository);
        }
        return out.toString();
    }

    private static void addRepository(StringBuilder out, PatchStore store, int repository) {
        out.append("REPOSITORY ").append(repository);
        for (int what = 0; what < 4; what++) {
            out.append(' ').append(store.about(repository, what));
        }
        out.append(' ').append(Use.hex(Use.state(store, repository))).append('\n');
        for (int p = 0; p < store.count(1); p++) {
            for (int what = 0; what < 3; what++) {
                out.append(' ').append(store.has(repository, p, what));
            }
        }
        out.append('\n');
        for (int k = 0; k < store.about(repository, 1); k++) {
            addFile(out, store, repository, k);
        }
    }

    private static void addFile(StringBuilder out, PatchStore store, int repository, int k) {
        out.append("FILE ").append(k);
        for (int what = 0; what < 7; what++) {
            out.append(' ').append(store.file(repository, k, what));
        }
        for (int j = 0; j < store.file(repository, k, 5); j++) {
            out.append(' ').append(Use.name(store, repository, k, j));
        }
        out.append('\n');
        for (int j = 0; j < store.file(repository, k, 0); j++) {
            for (int i = -4; i < store.line(repository, k, j, -1); i++) {
                out.append(store.line(repository, k, j, i)).append(' ');
            }
            out.append('\n');
        }
    }

    /** The first line in which two snapshots differ; nothing if they are the same. */
    static String difference(String before, String after) {
        String[] old = before.split("\n");
        String[] now = after.split("\n");
        for (int i = 0; i < Math.max(old.length, now.length); i++) {
            String was = i < old.length ? old[i] : "nothing";
            String is = i < now.length ? now[i] : "nothing";
            if (!was.equals(is)) {
                return "'" + is + "' where there was '" + was + "'";
            }
        }
        return "";
    }
}
