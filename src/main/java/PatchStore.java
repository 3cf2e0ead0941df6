import java.util.Arrays;
import java.util.NoSuchElementException;

/** Texts kept as sets of patches that can be taken in any order; ../shared/DOC.md is its document. */
public final class PatchStore {
    private static final int REPOSITORIES = 8;
    private static final int TAPE_MOST = 65536;
    private static final int PATCHES_MOST = 500;
    private static final int LINES_MOST = 4000;
    private static final int FILES_MOST = 200;
    private static final int FILE_LINES_MOST = 400;
    private static final int BYTES_MOST = 200000;
    private static final int RECORD_LINES_MOST = 200;
    private static final int LINE_LENGTH_MOST = 500;
    private static final int NAME_LENGTH_MOST = 64;
    private static final int OVER_MOST = 255;
    private static final int HASH_LENGTH = 32;
    private static final int LF = 10;

    private static final int ADD = 0;
    private static final int CALL = 1;
    private static final int INSERT = 2;
    private static final int DELETE = 3;
    private static final int ORDER = 4;

    /** The k of a REF that means the PATCH in which the REF stands. */
    private static final int OWN = 65535;
    private static final int NONE = -1;

    private static final int NO_FORM = -1;
    private static final int NO_DEPENDENCY = -2;
    private static final int WRONG_REF = -3;
    private static final int UNNAMED_DEPENDENCY = -4;
    private static final int FULL = -5;

    // A row of the stock has room for all that the stock can keep and, behind it, for one candidate:
    // at most 65,536 bytes read, or 88,048 bytes that a record makes; no CHANGE has less than 7 bytes.
    private static final int BYTES_ROOM = BYTES_MOST + 90000;
    private static final int CHANGES_ROOM = 38000;
    private static final int DEPENDENCIES_ROOM = 8400;
    private static final int CANDIDATE_DEPENDENCIES = 2048;
    // A CALL with a NAME has 12 bytes or more, and there are no more than 200 ADDS.
    private static final int NAMINGS_ROOM = 16800;

    /** Longs that hold a bit for each PATCH, or for each LINE of one FILE. */
    private static final int PATCH_WORDS = 8;
    private static final int LINE_WORDS = 7;

    private final byte[] tape = new byte[TAPE_MOST];
    private final Repository[] repositories = new Repository[REPOSITORIES];
    private final Sha256 sha = new Sha256();
    private final Stock stock = new Stock();
    private final Intake intake = new Intake(stock, sha);
    private final View view = new View(stock);
    private final Text text = new Text(stock);
    private final Maker maker = new Maker(stock);
    private final Recording recording = new Recording(stock, text, maker, tape);
    private int tapeLength;
    private int lastFault;

    public PatchStore() {
        for (int i = 0; i < REPOSITORIES; i++) {
            repositories[i] = new Repository();
        }
    }

    public int feed(int a, int b, int c, int d, int e) throws IllegalStateException {
        if (tapeLength + 20 > TAPE_MOST) {
            throw new IllegalStateException();
        }
        putOnTape(a);
        putOnTape(b);
        putOnTape(c);
        putOnTape(d);
        putOnTape(e);
        return tapeLength;
    }

    public int end(int n) throws IllegalArgumentException {
        if (n < 0 || n > tapeLength) {
            throw new IllegalArgumentException();
        }
        tapeLength = n;
        return n;
    }

    public int add(int repository, int salt)
            throws NoSuchElementException, IllegalArgumentException, IllegalStateException {
        Repository target = repositoryAt(repository);
        if (!tapeIsName()) {
            throw new IllegalArgumentException();
        }
        maker.makeAdd(salt, tape, tapeLength);
        return takeSettled(target, intake.settle(target));
    }

    public int call(int repository, int k)
            throws NoSuchElementException, IllegalArgumentException, IllegalStateException {
        Repository target = repositoryAt(repository);
        int file = fileAt(target, k);
        if (tapeLength > 0 && !tapeIsName()) {
            throw new IllegalArgumentException();
        }
        if (view.namingsOf[file] > OVER_MOST) {
            throw new IllegalStateException();
        }
        maker.makeCall(view, file, tape, tapeLength);
        return takeSettled(target, intake.settle(target));
    }

    public int record(int repository, int k)
            throws NoSuchElementException, IllegalArgumentException,
            UnsupportedOperationException, IllegalStateException {
        Repository target = repositoryAt(repository);
        int file = fileAt(target, k);
        if (!recording.split(tapeLength)) {
            throw new IllegalArgumentException();
        }
        text.load(target, file);
        if (text.length > RECORD_LINES_MOST || recording.newTotal > RECORD_LINES_MOST) {
            throw new UnsupportedOperationException();
        }
        if (!recording.makeRecord(file)) {
            tapeLength = 0;
            return -1;
        }
        return takeSettled(target, intake.settle(target));
    }

    public int read(int repository)
            throws NoSuchElementException, IllegalArgumentException, IllegalStateException {
        // The fault is that of the last read, so one that throws something else clears it too.
        lastFault = 0;
        Repository target = repositoryAt(repository);
        stock.lay(tape, tapeLength);
        int settled = intake.settle(target);
        if (settled < 0 && settled != FULL) {
            lastFault = -settled;
            throw new IllegalArgumentException();
        }
        return takeSettled(target, settled);
    }

    public int fault() {
        return lastFault;
    }

    public int show(int p) throws NoSuchElementException, UnsupportedOperationException {
        checkPatch(p);
        int length = stock.from[p + 1] - stock.from[p];
        if (length > TAPE_MOST) {
            throw new UnsupportedOperationException();
        }
        System.arraycopy(stock.bytes, stock.from[p], tape, 0, length);
        tapeLength = length;
        return length;
    }

    public int pull(int to, int from, int p) throws NoSuchElementException {
        Repository target = repositoryAt(to);
        Repository source = repositoryAt(from);
        if (p < 0) {
            return target.takeAll(source.members, 0);
        }
        if (!source.holds(p)) {
            throw new NoSuchElementException();
        }
        return target.takeAll(stock.leansOn, p * PATCH_WORDS) + target.take(p);
    }

    public int drop(int repository, int p) throws NoSuchElementException, IllegalStateException {
        Repository source = repositoryAt(repository);
        if (!source.holds(p)) {
            throw new NoSuchElementException();
        }
        // A SET with what LEANS on p has the link next to p too, which has p among its DEPENDENCIES.
        if (source.countOf(stock.leantBy, p) > 0) {
            throw new IllegalStateException();
        }
        source.leave(p);
        return source.size;
    }

    public int has(int repository, int p, int what)
            throws NoSuchElementException, IllegalArgumentException {
        Repository source = repositoryAt(repository);
        checkPatch(p);
        switch (what) {
            case 0:
                return source.holds(p) ? 1 : 0;
            case 1:
                return source.countOf(stock.leantBy, p);
            case 2:
                return stock.countLeansOn(p);
            default:
                throw new IllegalArgumentException();
        }
    }

    public int hash(int p, int i) throws NoSuchElementException, IndexOutOfBoundsException {
        checkPatch(p);
        checkHashIndex(i);
        return stock.hashes[p * HASH_LENGTH + i] & 255;
    }

    public int state(int repository, int i) throws NoSuchElementException, IndexOutOfBoundsException {
        Repository source = repositoryAt(repository);
        checkHashIndex(i);
        source.refreshDigest(stock, sha);
        return source.digest[i] & 255;
    }

    public int about(int repository, int what)
            throws NoSuchElementException, IllegalArgumentException {
        Repository source = repositoryAt(repository);
        view.load(source);
        switch (what) {
            case 0:
                return source.size;
            case 1:
                return view.fileTotal;
            case 2:
                return view.countManyNamed();
            case 3:
                return view.countSharing();
            default:
                throw new IllegalArgumentException();
        }
    }

    public int file(int repository, int k, int what)
            throws NoSuchElementException, IllegalArgumentException {
        Repository source = repositoryAt(repository);
        int file = fileAt(source, k);
        if (what == 5) {
            return view.namingsOf[file];
        }
        if (what == 6) {
            return stock.changes.patch[stock.changes.adds[file]];
        }
        text.load(source, file);
        switch (what) {
            case 0:
                return text.length;
            case 1:
                return text.size;
            case 2:
                return text.unsure;
            case 3:
                return text.stranded;
            case 4:
                return text.dead;
            default:
                throw new IllegalArgumentException();
        }
    }

    public int name(int repository, int k, int j, int i)
            throws NoSuchElementException, IndexOutOfBoundsException {
        int naming = view.namingAt(fileAt(repositoryAt(repository), k), j);
        if (naming == NONE) {
            throw new NoSuchElementException();
        }
        int at = stock.nameAt(naming);
        int length = stock.bytes[at];
        if (i < -1 || i >= length) {
            throw new IndexOutOfBoundsException();
        }
        // The length stands in front of the NAME, which is where -1 leads.
        return stock.bytes[at + 1 + i];
    }

    public int line(int repository, int k, int j, int i)
            throws NoSuchElementException, IndexOutOfBoundsException {
        Repository source = repositoryAt(repository);
        text.load(source, fileAt(source, k));
        if (j < 0 || j >= text.length) {
            throw new NoSuchElementException();
        }
        int line = text.order[j];
        if (i < -4 || i >= stock.lines.length[line]) {
            throw new IndexOutOfBoundsException();
        }
        return i < 0 ? stock.aboutLine(line, i) : stock.bytes[stock.lines.at[line] + i] & 255;
    }

    public int count(int what) {
        switch (what) {
            case 0:
                return tapeLength;
            case 1:
                return stock.patches;
            case 2:
                return stock.lines.total;
            case 3:
                return stock.changes.files;
            case 4:
                return stock.from[stock.patches];
            default:
                return -1;
        }
    }

    private void putOnTape(int word) {
        tape[tapeLength] = (byte) (word >> 24);
        tape[tapeLength + 1] = (byte) (word >> 16);
        tape[tapeLength + 2] = (byte) (word >> 8);
        tape[tapeLength + 3] = (byte) word;
        tapeLength += 4;
    }

    private boolean tapeIsName() {
        return tapeLength >= 1 && tapeLength <= NAME_LENGTH_MOST && Form.isPlain(tape, 0, tapeLength);
    }

    private Repository repositoryAt(int repository) {
        if (repository < 0 || repository >= REPOSITORIES) {
            throw new NoSuchElementException();
        }
        return repositories[repository];
    }

    private int fileAt(Repository source, int k) {
        view.load(source);
        if (k < 0 || k >= view.fileTotal) {
            throw new NoSuchElementException();
        }
        return view.files[k];
    }

    private void checkPatch(int p) {
        if (p < 0 || p >= stock.patches) {
            throw new NoSuchElementException();
        }
    }

    private void checkHashIndex(int i) {
        if (i < 0 || i >= HASH_LENGTH) {
            throw new IndexOutOfBoundsException();
        }
    }

    private int takeSettled(Repository target, int patch) {
        // What the object makes itself is well formed, so here nothing but FULL stands in a PATCH's way.
        if (patch < 0) {
            throw new IllegalStateException();
        }
        target.take(patch);
        tapeLength = 0;
        return patch;
    }

    /** SHA-256 of FIPS 180-4 over bytes that come in pieces. */
    private static final class Sha256 {
        private static final int[] ROUND = {
            0x428a2f98, 0x71374491, 0xb5c0fbcf, 0xe9b5dba5, 0x3956c25b, 0x59f111f1, 0x923f82a4, 0xab1c5ed5,
            0xd807aa98, 0x12835b01, 0x243185be, 0x550c7dc3, 0x72be5d74, 0x80deb1fe, 0x9bdc06a7, 0xc19bf174,
            0xe49b69c1, 0xefbe4786, 0x0fc19dc6, 0x240ca1cc, 0x2de92c6f, 0x4a7484aa, 0x5cb0a9dc, 0x76f988da,
            0x983e5152, 0xa831c66d, 0xb00327c8, 0xbf597fc7, 0xc6e00bf3, 0xd5a79147, 0x06ca6351, 0x14292967,
            0x27b70a85, 0x2e1b2138, 0x4d2c6dfc, 0x53380d13, 0x650a7354, 0x766a0abb, 0x81c2c92e, 0x92722c85,
            0xa2bfe8a1, 0xa81a664b, 0xc24b8b70, 0xc76c51a3, 0xd192e819, 0xd6990624, 0xf40e3585, 0x106aa070,
            0x19a4c116, 0x1e376c08, 0x2748774c, 0x34b0bcb5, 0x391c0cb3, 0x4ed8aa4a, 0x5b9cca4f, 0x682e6ff3,
            0x748f82ee, 0x78a5636f, 0x84c87814, 0x8cc70208, 0x90befffa, 0xa4506ceb, 0xbef9a3f7, 0xc67178f2};
        private static final int[] START = {
            0x6a09e667, 0xbb67ae85, 0x3c6ef372, 0xa54ff53a, 0x510e527f, 0x9b05688c, 0x1f83d9ab, 0x5be0cd19};
        private static final int BLOCK = 64;
        private static final int LENGTH_AT = 56;

        private final int[] sums = new int[8];
        private final int[] words = new int[64];
        private final byte[] block = new byte[BLOCK];
        private int filled;
        private int taken;

        void begin() {
            for (int i = 0; i < 8; i++) {
                sums[i] = START[i];
            }
            filled = 0;
            taken = 0;
        }

        void take(byte[] source, int at, int length) {
            for (int i = 0; i < length; i++) {
                put(source[at + i]);
            }
            taken += length;
        }

        void finish(byte[] target, int at) {
            put((byte) 128);
            for (int i = 0; i < BLOCK && filled != LENGTH_AT; i++) {
                put((byte) 0);
            }
            long bits = (long) taken * 8;
            for (int shift = 56; shift >= 0; shift -= 8) {
                put((byte) (bits >> shift));
            }
            for (int i = 0; i < HASH_LENGTH; i++) {
                target[at + i] = (byte) (sums[i / 4] >> (24 - 8 * (i % 4)));
            }
        }

        private void put(byte value) {
            block[filled] = value;
            filled++;
            if (filled == BLOCK) {
                spread();
                mix();
                filled = 0;
            }
        }

        private void spread() {
            for (int t = 0; t < 16; t++) {
                int at = 4 * t;
                words[t] = (block[at] << 24) | ((block[at + 1] & 255) << 16)
                    | ((block[at + 2] & 255) << 8) | (block[at + 3] & 255);
            }
            for (int t = 16; t < 64; t++) {
                int x = words[t - 15];
                int y = words[t - 2];
                int low = ((x >>> 7) | (x << 25)) ^ ((x >>> 18) | (x << 14)) ^ (x >>> 3);
                int high = ((y >>> 17) | (y << 15)) ^ ((y >>> 19) | (y << 13)) ^ (y >>> 10);
                words[t] = words[t - 16] + low + words[t - 7] + high;
            }
        }

        private void mix() {
            int a = sums[0];
            int b = sums[1];
            int c = sums[2];
            int d = sums[3];
            int e = sums[4];
            int f = sums[5];
            int g = sums[6];
            int h = sums[7];
            for (int t = 0; t < 64; t++) {
                int right = ((e >>> 6) | (e << 26)) ^ ((e >>> 11) | (e << 21)) ^ ((e >>> 25) | (e << 7));
                int one = h + right + ((e & f) ^ (~e & g)) + ROUND[t] + words[t];
                int left = ((a >>> 2) | (a << 30)) ^ ((a >>> 13) | (a << 19)) ^ ((a >>> 22) | (a << 10));
                int two = left + ((a & b) ^ (a & c) ^ (b & c));
                h = g;
                g = f;
                f = e;
                e = d + one;
                d = c;
                c = b;
                b = a;
                a = one + two;
            }
            sums[0] += a;
            sums[1] += b;
            sums[2] += c;
            sums[3] += d;
            sums[4] += e;
            sums[5] += f;
            sums[6] += g;
            sums[7] += h;
        }
    }

    /** A SET of PATCHES, a bit each. */
    private static final class Repository {
        final long[] members = new long[PATCH_WORDS];
        final byte[] digest = new byte[HASH_LENGTH];
        int size;
        /** Grows with every change of the SET: what is worked out from a SET holds for one version. */
        int version;
        private int digestVersion = -1;

        boolean holds(int patch) {
            return patch >= 0 && patch < PATCHES_MOST && (members[patch >> 6] >> (patch & 63) & 1) != 0;
        }

        boolean holdsAll(long[] rows, int patch) {
            for (int i = 0; i < PATCH_WORDS; i++) {
                if ((rows[patch * PATCH_WORDS + i] & ~members[i]) != 0) {
                    return false;
                }
            }
            return true;
        }

        int countOf(long[] rows, int patch) {
            int total = 0;
            for (int i = 0; i < PATCH_WORDS; i++) {
                total += Long.bitCount(rows[patch * PATCH_WORDS + i] & members[i]);
            }
            return total;
        }

        int take(int patch) {
            if (holds(patch)) {
                return 0;
            }
            members[patch >> 6] |= 1L << (patch & 63);
            size++;
            version++;
            return 1;
        }

        int takeAll(long[] rows, int at) {
            int before = size;
            for (int i = 0; i < PATCH_WORDS; i++) {
                size += Long.bitCount(rows[at + i] & ~members[i]);
                members[i] |= rows[at + i];
            }
            if (size != before) {
                version++;
            }
            return size - before;
        }

        void leave(int patch) {
            members[patch >> 6] &= ~(1L << (patch & 63));
            size--;
            version++;
        }

        void refreshDigest(Stock stock, Sha256 sha) {
            if (digestVersion == version) {
                return;
            }
            sha.begin();
            for (int rank = 0; rank < stock.patches; rank++) {
                int patch = stock.byHash[rank];
                if (holds(patch)) {
                    sha.take(stock.hashes, patch * HASH_LENGTH, HASH_LENGTH);
                }
            }
            sha.finish(digest, 0);
            digestVersion = version;
        }
    }

    /** The CHANGES of all PATCHES, one behind the other, and the FILES that they ADD. */
    private static final class Changes {
        final int[] at = new int[CHANGES_ROOM];
        final int[] patch = new int[CHANGES_ROOM];
        /** The FILE that a CHANGE adds or is about. */
        final int[] file = new int[CHANGES_ROOM];
        /** The number of an INSERT's first LINE; its others follow. */
        final int[] firstLine = new int[CHANGES_ROOM];
        /** The ADD of a FILE. */
        final int[] adds = new int[FILES_MOST];
        int files;
    }

    /** The LINES of all INSERTS. */
    private static final class Lines {
        final int[] at = new int[LINES_MOST];
        final int[] length = new int[LINES_MOST];
        final int[] change = new int[LINES_MOST];
        final int[] place = new int[LINES_MOST];
        /** UP and DOWN of the LINE's INSERT, as LINES. */
        final int[] up = new int[LINES_MOST];
        final int[] down = new int[LINES_MOST];
        final int[] ofFile = new int[FILES_MOST];
        int total;
    }

    /**
     * THE STOCK. Behind its last PATCH stands the candidate, if there is one: bytes and rows are laid out
     * as if it were the next PATCH, but the totals do not count it before it is kept.
     */
    private static final class Stock {
        final byte[] bytes = new byte[BYTES_ROOM];
        /** Where a PATCH begins, which is where the one before it ends; likewise the two rows below. */
        final int[] from = new int[PATCHES_MOST + 2];
        final int[] firstDependency = new int[PATCHES_MOST + 2];
        final int[] firstChange = new int[PATCHES_MOST + 2];
        final int[] dependencies = new int[DEPENDENCIES_ROOM];
        final byte[] hashes = new byte[(PATCHES_MOST + 1) * HASH_LENGTH];
        /** The PATCHES by rising HASH: whoever goes along it meets everything in the order of KEYS. */
        final int[] byHash = new int[PATCHES_MOST];
        final long[] leansOn = new long[PATCHES_MOST * PATCH_WORDS];
        final long[] leantBy = new long[PATCHES_MOST * PATCH_WORDS];
        final Changes changes = new Changes();
        final Lines lines = new Lines();
        int patches;

        /** Makes bytes the candidate. */
        void lay(byte[] source, int length) {
            System.arraycopy(source, 0, bytes, from[patches], length);
            from[patches + 1] = from[patches] + length;
        }

        int two(int at) {
            return (bytes[at] & 255) << 8 | (bytes[at + 1] & 255);
        }

        int kind(int change) {
            return bytes[changes.at[change]];
        }

        /** Where the length of the NAME of an ADD or CALL stands. */
        int nameAt(int change) {
            int at = changes.at[change];
            return bytes[at] == ADD ? at + 5 : at + 6 + 4 * (bytes[at + 5] & 255);
        }

        boolean isNaming(int change) {
            int kind = kind(change);
            return kind == ADD || kind == CALL && bytes[nameAt(change)] != 0;
        }

        /** Where the DOWN of an INSERT stands. */
        int downAt(int change) {
            int at = changes.at[change] + 5;
            return at + (bytes[at] == 0 ? 1 : 7);
        }

        /** Where the number of LINES of an INSERT stands. */
        int linesAt(int change) {
            int at = downAt(change);
            return at + (bytes[at] == 0 ? 1 : 7);
        }

        int changeNamed(int patch, int at) {
            int k = two(at);
            int owner = k == OWN ? patch : dependencies[firstDependency[patch] + k];
            return firstChange[owner] + two(at + 2);
        }

        int lineNamed(int patch, int at) {
            return changes.firstLine[changeNamed(patch, at)] + two(at + 4);
        }

        int lineOrNone(int patch, int at) {
            return bytes[at] == 0 ? NONE : lineNamed(patch, at + 1);
        }

        int aboutLine(int line, int what) {
            int change = lines.change[line];
            int patch = changes.patch[change];
            switch (what) {
                case -1:
                    return lines.length[line];
                case -2:
                    return patch;
                case -3:
                    return change - firstChange[patch];
                default:
                    return lines.place[line];
            }
        }

        /** The place among the PATCHES by HASH where this HASH stands or would stand. */
        int rankOf(byte[] source, int at) {
            int low = 0;
            int high = patches;
            for (int step = 0; step < PATCHES_MOST && low < high; step++) {
                int middle = (low + high) / 2;
                if (compareHashes(hashes, byHash[middle] * HASH_LENGTH, source, at) < 0) {
                    low = middle + 1;
                } else {
                    high = middle;
                }
            }
            return low;
        }

        int patchWith(byte[] source, int at) {
            int rank = rankOf(source, at);
            if (rank >= patches || compareHashes(hashes, byHash[rank] * HASH_LENGTH, source, at) != 0) {
                return NONE;
            }
            return byHash[rank];
        }

        static int compareHashes(byte[] one, int oneAt, byte[] other, int otherAt) {
            for (int i = 0; i < HASH_LENGTH; i++) {
                int difference = (one[oneAt + i] & 255) - (other[otherAt + i] & 255);
                if (difference != 0) {
                    return difference;
                }
            }
            return 0;
        }

        boolean leans(int patch, int on) {
            return (leansOn[patch * PATCH_WORDS + (on >> 6)] >> (on & 63) & 1) != 0;
        }

        int countLeansOn(int patch) {
            int total = 0;
            for (int i = 0; i < PATCH_WORDS; i++) {
                total += Long.bitCount(leansOn[patch * PATCH_WORDS + i]);
            }
            return total;
        }

        /** Makes the candidate the next PATCH, but for its LINES and FILES. */
        void keep() {
            int patch = patches;
            int rank = rankOf(hashes, patch * HASH_LENGTH);
            System.arraycopy(byHash, rank, byHash, rank + 1, patches - rank);
            byHash[rank] = patch;
            int row = patch * PATCH_WORDS;
            for (int i = firstDependency[patch]; i < firstDependency[patch + 1]; i++) {
                int on = dependencies[i];
                for (int word = 0; word < PATCH_WORDS; word++) {
                    leansOn[row + word] |= leansOn[on * PATCH_WORDS + word];
                }
                leansOn[row + (on >> 6)] |= 1L << (on & 63);
            }
            for (int on = 0; on < patch; on++) {
                if (leans(patch, on)) {
                    leantBy[on * PATCH_WORDS + (patch >> 6)] |= 1L << (patch & 63);
                }
            }
            patches++;
        }
    }

    /** Whether the candidate has the form of BYTES; where its CHANGES begin is noted on the way. */
    private static final class Form {
        private final Stock stock;

        Form(Stock stock) {
            this.stock = stock;
        }

        static boolean isPlain(byte[] source, int at, int length) {
            for (int i = at; i < at + length; i++) {
                if (source[i] < 33 || source[i] > 126) {
                    return false;
                }
            }
            return true;
        }

        boolean isKept() {
            int start = stock.from[stock.patches];
            int end = stock.from[stock.patches + 1];
            if (start + 4 > end) {
                return false;
            }
            int dependencies = stock.two(start);
            int at = start + 2 + dependencies * HASH_LENGTH;
            return at + 2 <= end && isRising(start + 2, dependencies) && changesEnd(at, end) == end;
        }

        private boolean isRising(int at, int hashes) {
            for (int i = 1; i < hashes; i++) {
                int next = at + i * HASH_LENGTH;
                if (Stock.compareHashes(stock.bytes, next - HASH_LENGTH, stock.bytes, next) >= 0) {
                    return false;
                }
            }
            return true;
        }

        private int changesEnd(int at, int end) {
            int first = stock.firstChange[stock.patches];
            int total = stock.two(at);
            if (total == 0) {
                return NONE;
            }
            int next = at + 2;
            for (int i = 0; i < total; i++) {
                if (next < 0 || next >= end || first + i >= CHANGES_ROOM) {
                    return NONE;
                }
                stock.changes.at[first + i] = next;
                next = changeEnd(next, end);
            }
            stock.firstChange[stock.patches + 1] = first + total;
            return next;
        }

        private int changeEnd(int at, int end) {
            switch (stock.bytes[at]) {
                case ADD:
                    return nameEnd(at + 5, end, 1);
                case CALL:
                    return callEnd(at, end);
                case INSERT:
                    return insertEnd(at, end);
                case DELETE:
                    return at + 7 <= end ? at + 7 : NONE;
                case ORDER:
                    return at + 13 <= end ? at + 13 : NONE;
                default:
                    return NONE;
            }
        }

        private int nameEnd(int at, int end, int least) {
            if (at >= end) {
                return NONE;
            }
            int length = stock.bytes[at];
            if (length < least || length > NAME_LENGTH_MOST || at + 1 + length > end) {
                return NONE;
            }
            return isPlain(stock.bytes, at + 1, length) ? at + 1 + length : NONE;
        }

        private int callEnd(int at, int end) {
            if (at + 6 > end || stock.bytes[at + 5] == 0) {
                return NONE;
            }
            return nameEnd(at + 6 + 4 * (stock.bytes[at + 5] & 255), end, 0);
        }

        private int insertEnd(int at, int end) {
            int next = placeEnd(placeEnd(at + 5, end), end);
            if (next < 0 || next + 2 > end) {
                return NONE;
            }
            int total = stock.two(next);
            if (total == 0) {
                return NONE;
            }
            next += 2;
            for (int i = 0; i < total && next > 0; i++) {
                next = lineEnd(next, end);
            }
            return next;
        }

        /** Behind an UP or DOWN. */
        private int placeEnd(int at, int end) {
            if (at < 0 || at >= end) {
                return NONE;
            }
            if (stock.bytes[at] == 0) {
                return at + 1;
            }
            return stock.bytes[at] == 1 ? at + 7 : NONE;
        }

        private int lineEnd(int at, int end) {
            if (at + 2 > end) {
                return NONE;
            }
            int length = stock.two(at);
            int last = at + 1 + length;
            if (length == 0 || length > LINE_LENGTH_MOST || last >= end) {
                return NONE;
            }
            for (int i = at + 2; i < last; i++) {
                if (stock.bytes[i] == LF) {
                    return NONE;
                }
            }
            return last + 1;
        }
    }

    /** Judges the candidate and makes it a PATCH of the stock, or finds that it is one. */
    private static final class Intake {
        private final Stock stock;
        private final Changes changes;
        private final Lines lines;
        private final Sha256 sha;
        private final Form form;
        private final int[] named = new int[CANDIDATE_DEPENDENCIES];
        private final int[] linesOfFile = new int[FILES_MOST];
        /** What the totals of the stock would be with the candidate. */
        private int nextFile;
        private int nextLine;

        Intake(Stock stock, Sha256 sha) {
            this.stock = stock;
            this.changes = stock.changes;
            this.lines = stock.lines;
            this.sha = sha;
            this.form = new Form(stock);
        }

        /** The number of the PATCH that the candidate is for this SET, or why it is none. */
        int settle(Repository repository) {
            if (!form.isKept()) {
                return NO_FORM;
            }
            if (!findDependencies(repository)) {
                return NO_DEPENDENCY;
            }
            int known = findKnown();
            if (known != NONE) {
                return repository.holdsAll(stock.leansOn, known) ? known : NO_DEPENDENCY;
            }
            if (!resolveAll()) {
                return WRONG_REF;
            }
            if (!allNamed()) {
                return UNNAMED_DEPENDENCY;
            }
            if (isFull()) {
                return FULL;
            }
            keepContents();
            stock.keep();
            return stock.patches - 1;
        }

        private boolean findDependencies(Repository repository) {
            int start = stock.from[stock.patches];
            int total = stock.two(start);
            int first = stock.firstDependency[stock.patches];
            for (int k = 0; k < total; k++) {
                int patch = stock.patchWith(stock.bytes, start + 2 + k * HASH_LENGTH);
                if (!repository.holds(patch) || first + k >= DEPENDENCIES_ROOM) {
                    return false;
                }
                stock.dependencies[first + k] = patch;
            }
            stock.firstDependency[stock.patches + 1] = first + total;
            return true;
        }

        private int findKnown() {
            int start = stock.from[stock.patches];
            int at = stock.patches * HASH_LENGTH;
            sha.begin();
            sha.take(stock.bytes, start, stock.from[stock.patches + 1] - start);
            sha.finish(stock.hashes, at);
            return stock.patchWith(stock.hashes, at);
        }

        private boolean resolveAll() {
            Arrays.fill(named, 0);
            nextFile = changes.files;
            nextLine = lines.total;
            for (int c = stock.firstChange[stock.patches]; c < stock.firstChange[stock.patches + 1]; c++) {
                changes.patch[c] = stock.patches;
                changes.file[c] = resolve(c, changes.at[c]);
                if (changes.file[c] == NONE) {
                    return false;
                }
            }
            return true;
        }

        /** The FILE of a CHANGE, NONE if a REF of it names what is not so. */
        private int resolve(int c, int at) {
            switch (stock.bytes[at]) {
                case ADD:
                    nextFile++;
                    return nextFile - 1;
                case CALL:
                    return resolveCall(c, at);
                case INSERT:
                    return resolveInsert(c, at);
                case DELETE:
                    return fileOfLine(c, at + 1);
                default:
                    return resolveOrder(c, at);
            }
        }

        private int resolveCall(int c, int at) {
            int file = fileNamed(c, at + 1);
            int total = stock.bytes[at + 5] & 255;
            for (int i = 0; i < total; i++) {
                int ref = at + 6 + 4 * i;
                int naming = changeNamed(c, ref);
                if (naming == NONE || !stock.isNaming(naming) || changes.file[naming] != file) {
                    return NONE;
                }
                if (isAmong(ref, at + 6, i)) {
                    return NONE;
                }
            }
            return file;
        }

        /** Whether the REF is one of those in front of it: no DEPENDENCY is there twice, so like bytes tell. */
        private boolean isAmong(int ref, int first, int total) {
            for (int i = 0; i < total; i++) {
                int other = first + 4 * i;
                if (stock.two(ref) == stock.two(other) && stock.two(ref + 2) == stock.two(other + 2)) {
                    return true;
                }
            }
            return false;
        }

        private int resolveInsert(int c, int at) {
            int file = fileNamed(c, at + 1);
            int up = at + 5;
            int down = stock.downAt(c);
            if (file == NONE || stock.bytes[up] != 0 && fileOfLine(c, up + 1) != file
                    || stock.bytes[down] != 0 && fileOfLine(c, down + 1) != file) {
                return NONE;
            }
            changes.firstLine[c] = nextLine;
            nextLine += stock.two(stock.linesAt(c));
            return file;
        }

        private int resolveOrder(int c, int at) {
            int file = fileOfLine(c, at + 1);
            if (file == NONE || fileOfLine(c, at + 7) != file) {
                return NONE;
            }
            int patch = stock.patches;
            return stock.lineNamed(patch, at + 1) == stock.lineNamed(patch, at + 7) ? NONE : file;
        }

        /** The CHANGE that a REF of CHANGE c names. */
        private int changeNamed(int c, int at) {
            int k = stock.two(at);
            int first = stock.firstDependency[stock.patches];
            if (k == OWN) {
                int own = stock.firstChange[stock.patches] + stock.two(at + 2);
                return own < c ? own : NONE;
            }
            if (k >= stock.firstDependency[stock.patches + 1] - first || k >= CANDIDATE_DEPENDENCIES) {
                return NONE;
            }
            named[k] = 1;
            int owner = stock.dependencies[first + k];
            int change = stock.firstChange[owner] + stock.two(at + 2);
            return change < stock.firstChange[owner + 1] ? change : NONE;
        }

        private int fileNamed(int c, int at) {
            int change = changeNamed(c, at);
            return change != NONE && stock.kind(change) == ADD ? changes.file[change] : NONE;
        }

        private int fileOfLine(int c, int at) {
            int change = changeNamed(c, at);
            if (change == NONE || stock.kind(change) != INSERT) {
                return NONE;
            }
            return stock.two(at + 4) < stock.two(stock.linesAt(change)) ? changes.file[change] : NONE;
        }

        private boolean allNamed() {
            int total = stock.firstDependency[stock.patches + 1] - stock.firstDependency[stock.patches];
            for (int k = 0; k < total; k++) {
                if (named[k] == 0) {
                    return false;
                }
            }
            return true;
        }

        private boolean isFull() {
            return stock.patches >= PATCHES_MOST || stock.from[stock.patches + 1] > BYTES_MOST
                || nextFile > FILES_MOST || nextLine > LINES_MOST || isAnyFileFull();
        }

        private boolean isAnyFileFull() {
            System.arraycopy(lines.ofFile, 0, linesOfFile, 0, FILES_MOST);
            for (int c = stock.firstChange[stock.patches]; c < stock.firstChange[stock.patches + 1]; c++) {
                if (stock.kind(c) == INSERT) {
                    int file = changes.file[c];
                    linesOfFile[file] += stock.two(stock.linesAt(c));
                    if (linesOfFile[file] > FILE_LINES_MOST) {
                        return true;
                    }
                }
            }
            return false;
        }

        private void keepContents() {
            for (int c = stock.firstChange[stock.patches]; c < stock.firstChange[stock.patches + 1]; c++) {
                int kind = stock.kind(c);
                if (kind == ADD) {
                    changes.adds[changes.file[c]] = c;
                } else if (kind == INSERT) {
                    keepLines(c);
                }
            }
            changes.files = nextFile;
        }

        private void keepLines(int c) {
            int up = stock.lineOrNone(stock.patches, changes.at[c] + 5);
            int down = stock.lineOrNone(stock.patches, stock.downAt(c));
            int at = stock.linesAt(c);
            int total = stock.two(at);
            at += 2;
            for (int i = 0; i < total; i++) {
                int line = lines.total;
                lines.at[line] = at + 2;
                lines.length[line] = stock.two(at);
                lines.change[line] = c;
                lines.place[line] = i;
                lines.up[line] = up;
                lines.down[line] = down;
                lines.total++;
                at += 2 + lines.length[line];
            }
            lines.ofFile[changes.file[c]] += total;
        }
    }

    /** The FILES and NAMINGS that are THERE in the SET that was loaded last. */
    private static final class View {
        private static final int BUCKETS = 256;

        final int[] files = new int[FILES_MOST];
        final int[] namingsOf = new int[FILES_MOST];
        final int[] namings = new int[NAMINGS_ROOM];
        int fileTotal;
        int namingTotal;
        private final Stock stock;
        private final Changes changes;
        private Repository loaded;
        private int version;
        /** A NAMING is OVER in this round if it bears the round's number: so the row needs no clearing. */
        private final int[] over = new int[CHANGES_ROOM];
        private int round;
        private final int[] heads = new int[BUCKETS];
        private final int[] nexts = new int[NAMINGS_ROOM];
        private final int[] sharing = new int[FILES_MOST];

        View(Stock stock) {
            this.stock = stock;
            this.changes = stock.changes;
        }

        void load(Repository repository) {
            if (loaded == repository && version == repository.version) {
                return;
            }
            loaded = repository;
            version = repository.version;
            round++;
            for (int patch = 0; patch < stock.patches; patch++) {
                if (repository.holds(patch)) {
                    markOver(patch);
                }
            }
            Arrays.fill(namingsOf, 0);
            namingTotal = 0;
            fileTotal = 0;
            for (int rank = 0; rank < stock.patches; rank++) {
                if (repository.holds(stock.byHash[rank])) {
                    gather(stock.byHash[rank]);
                }
            }
            leaveOutNameless();
        }

        private void markOver(int patch) {
            for (int c = stock.firstChange[patch]; c < stock.firstChange[patch + 1]; c++) {
                int at = changes.at[c];
                int total = stock.kind(c) == CALL ? stock.bytes[at + 5] & 255 : 0;
                for (int i = 0; i < total; i++) {
                    over[stock.changeNamed(patch, at + 6 + 4 * i)] = round;
                }
            }
        }

        private void gather(int patch) {
            for (int c = stock.firstChange[patch]; c < stock.firstChange[patch + 1]; c++) {
                if (stock.kind(c) == ADD && fileTotal < FILES_MOST) {
                    files[fileTotal] = changes.file[c];
                    fileTotal++;
                }
                if (stock.isNaming(c) && over[c] != round && namingTotal < NAMINGS_ROOM) {
                    namings[namingTotal] = c;
                    namingTotal++;
                    namingsOf[changes.file[c]]++;
                }
            }
        }

        private void leaveOutNameless() {
            int kept = 0;
            for (int i = 0; i < fileTotal; i++) {
                if (namingsOf[files[i]] > 0) {
                    files[kept] = files[i];
                    kept++;
                }
            }
            fileTotal = kept;
        }

        int namingAt(int file, int j) {
            int seen = 0;
            for (int i = 0; i < namingTotal; i++) {
                if (changes.file[namings[i]] == file) {
                    if (seen == j) {
                        return namings[i];
                    }
                    seen++;
                }
            }
            return NONE;
        }

        int countManyNamed() {
            int total = 0;
            for (int i = 0; i < fileTotal; i++) {
                if (namingsOf[files[i]] > 1) {
                    total++;
                }
            }
            return total;
        }

        int countSharing() {
            Arrays.fill(heads, NONE);
            Arrays.fill(sharing, 0);
            for (int i = 0; i < namingTotal; i++) {
                meet(i);
            }
            int total = 0;
            for (int i = 0; i < fileTotal; i++) {
                total += sharing[files[i]];
            }
            return total;
        }

        /** Each NAME has one NAMING in its bucket's chain: a NAMING of another FILE that meets it shares it. */
        private void meet(int i) {
            int bucket = bucketOf(namings[i]);
            int other = heads[bucket];
            for (int step = 0; step < i && other != NONE && !isSameName(namings[other], namings[i]); step++) {
                other = nexts[other];
            }
            if (other == NONE) {
                nexts[i] = heads[bucket];
                heads[bucket] = i;
                return;
            }
            int file = changes.file[namings[i]];
            int otherFile = changes.file[namings[other]];
            if (file != otherFile) {
                sharing[file] = 1;
                sharing[otherFile] = 1;
            }
        }

        private int bucketOf(int naming) {
            int at = stock.nameAt(naming);
            int sum = 0;
            for (int i = 1; i <= stock.bytes[at]; i++) {
                sum = sum * 31 + stock.bytes[at + i];
            }
            return sum & (BUCKETS - 1);
        }

        private boolean isSameName(int one, int other) {
            int oneAt = stock.nameAt(one);
            int otherAt = stock.nameAt(other);
            // The length stands in front of the NAME, so it is compared along with it.
            for (int i = 0; i <= stock.bytes[oneAt]; i++) {
                if (stock.bytes[oneAt + i] != stock.bytes[otherAt + i]) {
                    return false;
                }
            }
            return true;
        }
    }

    /** GRAPH and TEXT of the FILE that was loaded last. */
    private static final class Text {
        final int[] order = new int[FILE_LINES_MOST];
        int length;
        int size;
        int unsure;
        int stranded;
        int dead;
        private final Stock stock;
        private final Changes changes;
        private final Lines lines;
        private Repository loaded;
        private int version;
        private int loadedFile;
        /** The LINES of the GRAPH by KEY; a LINE's slot is its place here. */
        private final int[] rows = new int[FILE_LINES_MOST];
        private final int[] slots = new int[LINES_MOST];
        private int total;
        private final long[] reach = new long[FILE_LINES_MOST * LINE_WORDS];
        private final long[] deleters = new long[FILE_LINES_MOST * PATCH_WORDS];
        /** 1 for a slot that is DEAD or taken. */
        private final int[] gone = new int[FILE_LINES_MOST];
        /** How many that are not gone must be taken first. */
        private final int[] waits = new int[FILE_LINES_MOST];

        Text(Stock stock) {
            this.stock = stock;
            this.changes = stock.changes;
            this.lines = stock.lines;
        }

        void load(Repository repository, int file) {
            if (loaded == repository && version == repository.version && loadedFile == file) {
                return;
            }
            loaded = repository;
            version = repository.version;
            loadedFile = file;
            gatherLines();
            clearRows();
            layInsertEdges();
            for (int patch = 0; patch < stock.patches; patch++) {
                if (repository.holds(patch)) {
                    layOrdersAndDeletes(patch);
                }
            }
            closeReach();
            countDeadAndStranded();
            takeLines();
        }

        boolean isBefore(int line, int other) {
            return reaches(slots[line], slots[other]);
        }

        private void gatherLines() {
            total = 0;
            for (int rank = 0; rank < stock.patches; rank++) {
                int patch = stock.byHash[rank];
                if (loaded.holds(patch)) {
                    gatherFrom(patch);
                }
            }
        }

        private void gatherFrom(int patch) {
            for (int c = stock.firstChange[patch]; c < stock.firstChange[patch + 1]; c++) {
                if (changes.file[c] != loadedFile || stock.kind(c) != INSERT) {
                    continue;
                }
                int first = changes.firstLine[c];
                int end = first + stock.two(stock.linesAt(c));
                for (int line = first; line < end && total < FILE_LINES_MOST; line++) {
                    rows[total] = line;
                    slots[line] = total;
                    total++;
                }
            }
        }

        /** Clears no more than the GRAPH needs: most are small. */
        private void clearRows() {
            for (int i = 0; i < total * LINE_WORDS; i++) {
                reach[i] = 0;
            }
            for (int i = 0; i < total * PATCH_WORDS; i++) {
                deleters[i] = 0;
            }
            for (int slot = 0; slot < total; slot++) {
                gone[slot] = 0;
            }
        }

        private void layInsertEdges() {
            for (int slot = 0; slot < total; slot++) {
                int line = rows[slot];
                if (lines.place[line] > 0) {
                    layEdge(line - 1, line);
                } else if (lines.up[line] != NONE) {
                    layEdge(lines.up[line], line);
                }
                if (lines.down[line] != NONE && isLastOfInsert(line)) {
                    layEdge(line, lines.down[line]);
                }
            }
        }

        private boolean isLastOfInsert(int line) {
            return line + 1 >= lines.total || lines.place[line + 1] == 0;
        }

        private void layEdge(int line, int other) {
            int slot = slots[other];
            reach[slots[line] * LINE_WORDS + (slot >> 6)] |= 1L << (slot & 63);
        }

        private void layOrdersAndDeletes(int patch) {
            for (int c = stock.firstChange[patch]; c < stock.firstChange[patch + 1]; c++) {
                if (changes.file[c] != loadedFile) {
                    continue;
                }
                int kind = stock.kind(c);
                int at = changes.at[c];
                if (kind == ORDER) {
                    layEdge(stock.lineNamed(patch, at + 1), stock.lineNamed(patch, at + 7));
                } else if (kind == DELETE) {
                    int slot = slots[stock.lineNamed(patch, at + 1)];
                    gone[slot] = 1;
                    deleters[slot * PATCH_WORDS + (patch >> 6)] |= 1L << (patch & 63);
                }
            }
        }

        /**
         * Warshall's closure. It goes from the last slot down because the edges within an INSERT lead up:
         * along these each slot then hands its row to one other alone.
         */
        private void closeReach() {
            int words = (total + 63) >> 6;
            for (int middle = total - 1; middle >= 0; middle--) {
                int from = middle * LINE_WORDS;
                int bitWord = middle >> 6;
                int bit = middle & 63;
                for (int slot = 0; slot < total; slot++) {
                    int to = slot * LINE_WORDS;
                    if ((reach[to + bitWord] >> bit & 1) != 0) {
                        for (int word = 0; word < words; word++) {
                            reach[to + word] |= reach[from + word];
                        }
                    }
                }
            }
        }

        private boolean reaches(int slot, int other) {
            return (reach[slot * LINE_WORDS + (other >> 6)] >> (other & 63) & 1) != 0;
        }

        private void countDeadAndStranded() {
            dead = 0;
            stranded = 0;
            for (int slot = 0; slot < total; slot++) {
                int line = rows[slot];
                if (gone[slot] != 0) {
                    dead++;
                } else if (isLost(line, lines.up[line]) || isLost(line, lines.down[line])) {
                    stranded++;
                }
            }
        }

        /** Whether the LINE's neighbour was deleted by a PATCH that has nothing to do with the LINE's own. */
        private boolean isLost(int line, int neighbour) {
            if (neighbour == NONE) {
                return false;
            }
            int patch = changes.patch[lines.change[line]];
            int row = patch * PATCH_WORDS;
            int deletersAt = slots[neighbour] * PATCH_WORDS;
            for (int word = 0; word < PATCH_WORDS; word++) {
                long kin = stock.leansOn[row + word] | stock.leantBy[row + word];
                if (word == patch >> 6) {
                    kin |= 1L << (patch & 63);
                }
                if ((deleters[deletersAt + word] & ~kin) != 0) {
                    return true;
                }
            }
            return false;
        }

        private void takeLines() {
            for (int slot = 0; slot < total; slot++) {
                waits[slot] = gone[slot] != 0 ? 0 : countWaits(slot);
            }
            length = 0;
            size = 0;
            unsure = 0;
            int alive = total - dead;
            for (int step = 0; step < alive; step++) {
                int slot = leastFree();
                if (slot == NONE) {
                    return;
                }
                takeSlot(slot);
            }
        }

        private int countWaits(int slot) {
            int count = 0;
            for (int other = 0; other < total; other++) {
                if (gone[other] == 0 && reaches(other, slot) && !reaches(slot, other)) {
                    count++;
                }
            }
            return count;
        }

        /** The least FREE slot; notes whether there was another one. */
        private int leastFree() {
            int least = NONE;
            for (int slot = 0; slot < total; slot++) {
                if (gone[slot] == 0 && waits[slot] == 0) {
                    if (least != NONE) {
                        unsure++;
                        return least;
                    }
                    least = slot;
                }
            }
            return least;
        }

        private void takeSlot(int slot) {
            gone[slot] = 1;
            order[length] = rows[slot];
            length++;
            size += lines.length[rows[slot]];
            for (int other = 0; other < total; other++) {
                if (gone[other] == 0 && reaches(slot, other) && !reaches(other, slot)) {
                    waits[other]--;
                }
            }
        }
    }

    /**
     * Writes BYTES as the candidate. REFS need the places of the DEPENDENCIES, and these are known only when
     * all that is named is known: so what names PATCHES is written twice, with putHead between.
     */
    private static final class Maker {
        private final Stock stock;
        private final int[] named = new int[PATCHES_MOST];
        private final int[] places = new int[PATCHES_MOST];
        private int at;
        private int changes;

        Maker(Stock stock) {
            this.stock = stock;
        }

        void makeAdd(int salt, byte[] name, int length) {
            begin();
            changes = 1;
            putHead();
            put(ADD);
            putTwo(salt >>> 16);
            putTwo(salt);
            putName(name, length);
            finish();
        }

        void makeCall(View view, int file, byte[] name, int length) {
            begin();
            writeCall(view, file, name, length);
            putHead();
            writeCall(view, file, name, length);
            finish();
        }

        private void writeCall(View view, int file, byte[] name, int length) {
            putKind(CALL);
            putRef(stock.changes.adds[file]);
            put(view.namingsOf[file]);
            for (int i = 0; i < view.namingTotal; i++) {
                if (stock.changes.file[view.namings[i]] == file) {
                    putRef(view.namings[i]);
                }
            }
            putName(name, length);
        }

        void begin() {
            at = stock.from[stock.patches];
            changes = 0;
            Arrays.fill(named, 0);
        }

        boolean isWithoutChanges() {
            return changes == 0;
        }

        /** Starts anew with the DEPENDENCIES and the number of CHANGES of what was written so far. */
        void putHead() {
            int total = 0;
            for (int patch = 0; patch < stock.patches; patch++) {
                total += named[patch];
            }
            at = stock.from[stock.patches];
            putTwo(total);
            int place = 0;
            for (int rank = 0; rank < stock.patches; rank++) {
                int patch = stock.byHash[rank];
                if (named[patch] != 0) {
                    places[patch] = place;
                    place++;
                    putBytes(stock.hashes, patch * HASH_LENGTH, HASH_LENGTH);
                }
            }
            putTwo(changes);
        }

        void finish() {
            stock.from[stock.patches + 1] = at;
        }

        void putKind(int kind) {
            changes++;
            put(kind);
        }

        void putRef(int change) {
            int patch = stock.changes.patch[change];
            named[patch] = 1;
            putTwo(places[patch]);
            putTwo(change - stock.firstChange[patch]);
        }

        void putLineRef(int line) {
            putRef(stock.lines.change[line]);
            putTwo(stock.lines.place[line]);
        }

        /** An UP or DOWN. */
        void putPlace(int line) {
            if (line == NONE) {
                put(0);
            } else {
                put(1);
                putLineRef(line);
            }
        }

        private void putName(byte[] name, int length) {
            put(length);
            putBytes(name, 0, length);
        }

        void putTwo(int value) {
            if (at + 1 < BYTES_ROOM) {
                stock.bytes[at] = (byte) (value >> 8);
                stock.bytes[at + 1] = (byte) value;
                at += 2;
            }
        }

        void putBytes(byte[] source, int from, int length) {
            for (int i = 0; i < length; i++) {
                put(source[from + i]);
            }
        }

        private void put(int value) {
            if (at < BYTES_ROOM) {
                stock.bytes[at] = (byte) value;
                at++;
            }
        }
    }

    /** RECORDING: what leads from the loaded TEXT, OLD, to the text on THE TAPE, NEW. */
    private static final class Recording {
        private static final int SIDE = RECORD_LINES_MOST + 1;

        int newTotal;
        private final Stock stock;
        private final Text text;
        private final Maker maker;
        private final byte[] tape;
        private int oldTotal;
        private int file;
        private final int[] newAt = new int[RECORD_LINES_MOST];
        private final int[] newLength = new int[RECORD_LINES_MOST];
        /** LINES that are the same have the same sort: the first of OLD and then NEW that is so. */
        private final int[] sorts = new int[2 * RECORD_LINES_MOST];
        private final int[] sums = new int[2 * RECORD_LINES_MOST];
        private final int[] common = new int[SIDE * SIDE];
        private final int[] deleted = new int[RECORD_LINES_MOST];
        private int deletedTotal;
        private final int[] kept = new int[RECORD_LINES_MOST];
        private final int[] keptNew = new int[RECORD_LINES_MOST];
        private int keptTotal;

        Recording(Stock stock, Text text, Maker maker, byte[] tape) {
            this.stock = stock;
            this.text = text;
            this.maker = maker;
            this.tape = tape;
        }

        /** Cuts THE TAPE into LINES; false if one is too long. What is beyond the most is counted alone. */
        boolean split(int tapeLength) {
            newTotal = 0;
            int start = 0;
            for (int i = 0; i < tapeLength; i++) {
                if (tape[i] == LF || i == tapeLength - 1) {
                    if (i + 1 - start > LINE_LENGTH_MOST) {
                        return false;
                    }
                    if (newTotal < RECORD_LINES_MOST) {
                        newAt[newTotal] = start;
                        newLength[newTotal] = i + 1 - start;
                    }
                    newTotal++;
                    start = i + 1;
                }
            }
            return true;
        }

        /** Makes the PATCH the candidate; false if there is nothing to change. */
        boolean makeRecord(int fileOfText) {
            file = fileOfText;
            oldTotal = text.length;
            sortLines();
            measureCommon();
            walk();
            maker.begin();
            writeChanges();
            if (maker.isWithoutChanges()) {
                return false;
            }
            maker.putHead();
            writeChanges();
            maker.finish();
            return true;
        }

        private byte[] sourceOf(int i) {
            return i < oldTotal ? stock.bytes : tape;
        }

        private int atOf(int i) {
            return i < oldTotal ? stock.lines.at[text.order[i]] : newAt[i - oldTotal];
        }

        private int lengthOf(int i) {
            return i < oldTotal ? stock.lines.length[text.order[i]] : newLength[i - oldTotal];
        }

        private void sortLines() {
            for (int i = 0; i < oldTotal + newTotal; i++) {
                sums[i] = sumOf(i);
                sorts[i] = i;
                for (int first = 0; first < i && sorts[i] == i; first++) {
                    if (sorts[first] == first && isSame(first, i)) {
                        sorts[i] = first;
                    }
                }
            }
        }

        private int sumOf(int i) {
            byte[] source = sourceOf(i);
            int at = atOf(i);
            int end = at + lengthOf(i);
            int sum = 0;
            for (int k = at; k < end; k++) {
                sum = sum * 31 + source[k];
            }
            return sum;
        }

        private boolean isSame(int one, int other) {
            int length = lengthOf(one);
            if (sums[one] != sums[other] || length != lengthOf(other)) {
                return false;
            }
            byte[] source = sourceOf(one);
            byte[] otherSource = sourceOf(other);
            int at = atOf(one);
            int otherAt = atOf(other);
            for (int k = 0; k < length; k++) {
                if (source[at + k] != otherSource[otherAt + k]) {
                    return false;
                }
            }
            return true;
        }

        private void measureCommon() {
            for (int j = 0; j <= newTotal; j++) {
                common[oldTotal * SIDE + j] = 0;
            }
            for (int i = oldTotal - 1; i >= 0; i--) {
                int row = i * SIDE;
                common[row + newTotal] = 0;
                for (int j = newTotal - 1; j >= 0; j--) {
                    if (sorts[i] == sorts[oldTotal + j]) {
                        common[row + j] = common[row + SIDE + j + 1] + 1;
                    } else {
                        common[row + j] = Math.max(common[row + SIDE + j], common[row + j + 1]);
                    }
                }
            }
        }

        private void walk() {
            deletedTotal = 0;
            keptTotal = 0;
            int i = 0;
            int j = 0;
            for (int step = 0; step < oldTotal + newTotal; step++) {
                boolean isOld = i < oldTotal;
                boolean isNew = j < newTotal;
                if (isOld && isNew && sorts[i] == sorts[oldTotal + j]) {
                    kept[keptTotal] = text.order[i];
                    keptNew[keptTotal] = j;
                    keptTotal++;
                    i++;
                    j++;
                } else if (isOld && (!isNew || common[(i + 1) * SIDE + j] >= common[i * SIDE + j + 1])) {
                    deleted[deletedTotal] = text.order[i];
                    deletedTotal++;
                    i++;
                } else if (isNew) {
                    j++;
                }
            }
        }

        private void writeChanges() {
            for (int i = 0; i < deletedTotal; i++) {
                maker.putKind(DELETE);
                maker.putLineRef(deleted[i]);
            }
            for (int gap = 0; gap <= keptTotal; gap++) {
                int first = gap == 0 ? 0 : keptNew[gap - 1] + 1;
                int end = gap == keptTotal ? newTotal : keptNew[gap];
                if (first < end) {
                    writeInsert(gap, first, end);
                }
            }
            for (int i = 1; i < keptTotal; i++) {
                if (keptNew[i - 1] + 1 == keptNew[i] && !text.isBefore(kept[i - 1], kept[i])) {
                    maker.putKind(ORDER);
                    maker.putLineRef(kept[i - 1]);
                    maker.putLineRef(kept[i]);
                }
            }
        }

        private void writeInsert(int gap, int first, int end) {
            maker.putKind(INSERT);
            maker.putRef(stock.changes.adds[file]);
            maker.putPlace(gap == 0 ? NONE : kept[gap - 1]);
            maker.putPlace(gap == keptTotal ? NONE : kept[gap]);
            maker.putTwo(end - first);
            for (int j = first; j < end; j++) {
                maker.putTwo(newLength[j]);
                maker.putBytes(tape, newAt[j], newLength[j]);
            }
        }
    }
}
