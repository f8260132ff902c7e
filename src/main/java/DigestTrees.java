import java.util.Arrays;

/** Digests of FIPS 180-4, trees of them with proofs, and a store that finds rows by them. */
public final class DigestTrees {
    public static final int NONE = -1, UNKNOWN = -101, OUTSIDE = -102, FULL = -103, STATE = -104;

    private static final int WIDE = 0, NARROW = 1, KEYED = 2;
    private static final int WIDE_BYTES = 32, NARROW_BYTES = 28;
    private static final int BLOCK_BYTES = 64, BLOCK_WORDS = 16, ROUNDS = 64;
    private static final int LENGTH_AT = 56;
    private static final int OUTER_MASK = 92, INNER_MASK = 54;

    private static final int TAPE_MOST = 200, STREAM_MOST = 2000, DIGESTS_MOST = 60;
    private static final int STREAMS = 4, TREES = 4, KINDS = 8, LEAVES_MOST = 12;
    private static final int ROWS_MOST = 40, ROW_MOST = 40, SPOT_MASK = 15;

    // Twelve leaves make levels of 12, 6, 3, 2 and 1; no smaller tree has more.
    private static final int NODES_MOST = 24, PROOF_MOST = 4;

    // What binds the kind of a node into its digest.
    private static final int LEAF_MARK = 0, PAIR_MARK = 1, ROOT_MARK = 2;

    // K is written out once for the class, so no object ever makes it again.
    private static final int K_MADE = 1;

    private static final int[] K = {
        0x428a2f98, 0x71374491, 0xb5c0fbcf, 0xe9b5dba5, 0x3956c25b, 0x59f111f1, 0x923f82a4, 0xab1c5ed5,
        0xd807aa98, 0x12835b01, 0x243185be, 0x550c7dc3, 0x72be5d74, 0x80deb1fe, 0x9bdc06a7, 0xc19bf174,
        0xe49b69c1, 0xefbe4786, 0x0fc19dc6, 0x240ca1cc, 0x2de92c6f, 0x4a7484aa, 0x5cb0a9dc, 0x76f988da,
        0x983e5152, 0xa831c66d, 0xb00327c8, 0xbf597fc7, 0xc6e00bf3, 0xd5a79147, 0x06ca6351, 0x14292967,
        0x27b70a85, 0x2e1b2138, 0x4d2c6dfc, 0x53380d13, 0x650a7354, 0x766a0abb, 0x81c2c92e, 0x92722c85,
        0xa2bfe8a1, 0xa81a664b, 0xc24b8b70, 0xc76c51a3, 0xd192e819, 0xd6990624, 0xf40e3585, 0x106aa070,
        0x19a4c116, 0x1e376c08, 0x2748774c, 0x34b0bcb5, 0x391c0cb3, 0x4ed8aa4a, 0x5b9cca4f, 0x682e6ff3,
        0x748f82ee, 0x78a5636f, 0x84c87814, 0x8cc70208, 0x90befffa, 0xa4506ceb, 0xbef9a3f7, 0xc67178f2};

    private static final int[] WIDE_START = {
        0x6a09e667, 0xbb67ae85, 0x3c6ef372, 0xa54ff53a, 0x510e527f, 0x9b05688c, 0x1f83d9ab, 0x5be0cd19};

    private static final int[] NARROW_START = {
        0xc1059ed8, 0x367cd507, 0x3070dd17, 0xf70e5939, 0xffc00b31, 0x68581511, 0x64f98fa7, 0xbefa4fa4};

    // How many bytes read() takes together, by width.
    private static final int[] WIDTH_BYTES = {1, 2, 2, 4, 8};

    private final Bytes tape = new Bytes();
    private final Bytes secret = new Bytes();
    private final Mill mill = new Mill();
    private final Message whole = new Message(mill);
    private final Message[] streams = new Message[STREAMS];
    private final Shelf shelf = new Shelf();
    private final Tree[] trees = new Tree[TREES];
    private final Proof proof = new Proof();
    private final Store store = new Store();
    private final byte[] node = new byte[WIDE_BYTES];

    public DigestTrees() {
        for (int i = 0; i < STREAMS; i++) {
            streams[i] = new Message(new Mill());
        }
        for (int i = 0; i < TREES; i++) {
            trees[i] = new Tree();
        }
    }

    public int feed(int n, long w) {
        if (n < 1 || n > 8) {
            return OUTSIDE;
        }
        if (n > TAPE_MOST - tape.size) {
            return FULL;
        }
        for (int i = n - 1; i >= 0; i--) {
            tape.room[tape.size] = (byte) (w >>> (8 * i));
            tape.size++;
        }
        return tape.size;
    }

    public int key() {
        System.arraycopy(tape.room, 0, secret.room, 0, tape.size);
        secret.size = tape.size;
        tape.size = 0;
        return secret.size;
    }

    // ---- digests, streams

    public int digest(int sort) {
        if (!isSort(sort)) {
            return OUTSIDE;
        }
        if (shelf.isFull()) {
            return FULL;
        }
        whole.begin(sort, secret);
        whole.take(tape);
        tape.size = 0;
        return whole.finish(shelf);
    }

    public int open(int stream, int sort) {
        if (!isStream(stream) || !isSort(sort)) {
            return OUTSIDE;
        }
        if (streams[stream].isOpen) {
            return STATE;
        }
        streams[stream].begin(sort, secret);
        streams[stream].isOpen = true;
        return 1;
    }

    public int more(int stream) {
        if (!isStream(stream)) {
            return OUTSIDE;
        }
        Message message = streams[stream];
        if (!message.isOpen) {
            return STATE;
        }
        if (tape.size > STREAM_MOST - message.came) {
            return FULL;
        }
        message.take(tape);
        tape.size = 0;
        return message.came;
    }

    public int end(int stream) {
        if (!isStream(stream)) {
            return OUTSIDE;
        }
        if (!streams[stream].isOpen) {
            return STATE;
        }
        if (shelf.isFull()) {
            return FULL;
        }
        streams[stream].isOpen = false;
        return streams[stream].finish(shelf);
    }

    public int told(int digest, int what) {
        if (!shelf.has(digest)) {
            return UNKNOWN;
        }
        switch (what) {
            case 0:
                return shelf.sorts[digest];
            case 1:
                return bytesOf(shelf.sorts[digest]);
            case 2:
                return shelf.blocks[digest];
            default:
                return OUTSIDE;
        }
    }

    public long read(int digest, int width, int i) throws ArrayIndexOutOfBoundsException {
        if (!shelf.has(digest)) {
            return UNKNOWN;
        }
        if (width < 0 || width >= WIDTH_BYTES.length) {
            return OUTSIDE;
        }
        int n = WIDTH_BYTES[width];
        if (i < 0 || i > bytesOf(shelf.sorts[digest]) - n) {
            throw new ArrayIndexOutOfBoundsException("not all of it is in the digest");
        }
        long value = 0;
        for (int k = 0; k < n; k++) {
            value = (value << 8) | (shelf.bytes[digest][i + k] & 255);
        }
        return ofWidth(width, value);
    }

    public long plan(int digest, int t) throws ArrayIndexOutOfBoundsException {
        if (!shelf.has(digest)) {
            return UNKNOWN;
        }
        if (t < 0 || t >= ROUNDS) {
            throw new ArrayIndexOutOfBoundsException("a block has W(0) to W(63)");
        }
        return shelf.wordOfLast(digest, t);
    }

    public int same(int a, int b) {
        if (!shelf.has(a) || !shelf.has(b)) {
            return UNKNOWN;
        }
        int n = bytesOf(shelf.sorts[a]);
        if (n != bytesOf(shelf.sorts[b])) {
            return 0;
        }
        return alike(shelf.bytes[a], shelf.bytes[b], n) ? 1 : 0;
    }

    public int table(int t) throws ArrayIndexOutOfBoundsException {
        if (t < 0 || t >= ROUNDS) {
            throw new ArrayIndexOutOfBoundsException("there are K(0) to K(63)");
        }
        return K[t];
    }

    // ---- trees

    public int leaf(int tree, int kind) {
        if (!isTree(tree) || !isLeaf(kind)) {
            return OUTSIDE;
        }
        Tree grown = trees[tree];
        if (grown.count >= LEAVES_MOST) {
            return FULL;
        }
        setLeaf(grown, grown.count, kind);
        grown.count++;
        return grown.count;
    }

    public int change(int tree, int leaf, int kind) {
        if (!isTree(tree)) {
            return OUTSIDE;
        }
        if (!trees[tree].has(leaf)) {
            return UNKNOWN;
        }
        if (!isLeaf(kind)) {
            return OUTSIDE;
        }
        int before = trees[tree].kinds[leaf];
        setLeaf(trees[tree], leaf, kind);
        return before;
    }

    public int root(int tree) {
        if (!isTree(tree)) {
            return OUTSIDE;
        }
        if (shelf.isFull()) {
            return FULL;
        }
        byte[] top = trees[tree].climb(mill);
        digestRoot(mill, trees[tree].count, top);
        return shelf.add(WIDE, mill.blocks, mill);
    }

    public int drop(int tree) {
        if (!isTree(tree)) {
            return OUTSIDE;
        }
        int before = trees[tree].count;
        trees[tree].count = 0;
        return before;
    }

    public int prove(int tree, int leaf) {
        if (!isTree(tree)) {
            return OUTSIDE;
        }
        if (!trees[tree].has(leaf)) {
            return UNKNOWN;
        }
        trees[tree].climb(mill);
        proof.gather(trees[tree], leaf);
        return proof.count;
    }

    public int alter(int k, int i, int mask) {
        if (k < 0 || k >= proof.count) {
            return UNKNOWN;
        }
        if (i < 0 || i >= WIDE_BYTES || mask < 0 || mask > 255) {
            return OUTSIDE;
        }
        byte[] beside = proof.beside[k];
        beside[i] = (byte) (beside[i] ^ mask);
        return beside[i] & 255;
    }

    public int check(int digest, int n, int i, int kind) {
        if (!shelf.has(digest)) {
            return UNKNOWN;
        }
        if (n < 1 || n > LEAVES_MOST || i < 0 || i >= n || !isLeaf(kind)) {
            return OUTSIDE;
        }
        if (proof.count != Proof.due(n, i) || bytesOf(shelf.sorts[digest]) != WIDE_BYTES) {
            return 0;
        }
        digestLeaf(mill, kind, tape, node);
        proof.follow(mill, n, i, node);
        digestRoot(mill, n, node);
        mill.write(node, WIDE_BYTES);
        return alike(node, shelf.bytes[digest], WIDE_BYTES) ? 1 : 0;
    }

    // ---- the store

    public int keep() {
        if (tape.size > ROW_MOST) {
            return OUTSIDE;
        }
        int spot = spotOf(tape);
        int number = store.seek(tape, spot);
        if (number == NONE && store.count >= ROWS_MOST) {
            return FULL;
        }
        store.compared = store.looked;
        if (number == NONE) {
            number = store.add(tape, spot);
        }
        tape.size = 0;
        return number;
    }

    public int find() {
        if (tape.size > ROW_MOST) {
            return OUTSIDE;
        }
        int number = store.seek(tape, spotOf(tape));
        store.compared = store.looked;
        tape.size = 0;
        return number;
    }

    public byte row(int row, int i) throws NullPointerException, ArrayIndexOutOfBoundsException {
        if (row < 0 || row >= ROWS_MOST) {
            throw new ArrayIndexOutOfBoundsException("rows have numbers 0 to 39");
        }
        if (row >= store.count) {
            throw new NullPointerException("no such row is kept");
        }
        if (i < 0 || i >= store.sizes[row]) {
            throw new ArrayIndexOutOfBoundsException("the row has no such byte");
        }
        return store.rows[row][i];
    }

    public int about(int what) {
        switch (what) {
            case 0:
                return tape.size;
            case 1:
                return shelf.count;
            case 2:
                return store.count;
            case 3:
                return store.pairsThatMeet();
            case 4:
                return store.compared;
            case 5:
                return K_MADE;
            default:
                return OUTSIDE;
        }
    }

    public int clear() {
        int before = shelf.count;
        tape.size = 0;
        secret.size = 0;
        shelf.count = 0;
        for (int i = 0; i < STREAMS; i++) {
            streams[i].isOpen = false;
        }
        for (int i = 0; i < TREES; i++) {
            trees[i].count = 0;
        }
        proof.count = 0;
        store.count = 0;
        store.compared = 0;
        return before;
    }

    private static boolean isSort(int sort) {
        return sort >= WIDE && sort <= KEYED;
    }

    private static boolean isStream(int stream) {
        return stream >= 0 && stream < STREAMS;
    }

    private static boolean isTree(int tree) {
        return tree >= 0 && tree < TREES;
    }

    /** Whether the tape may be a leaf of this kind. */
    private boolean isLeaf(int kind) {
        return kind >= 0 && kind < KINDS && tape.size <= ROW_MOST;
    }

    private static int bytesOf(int sort) {
        return sort == NARROW ? NARROW_BYTES : WIDE_BYTES;
    }

    private static long ofWidth(int width, long value) {
        switch (width) {
            case 0:
                return (byte) value;
            case 1:
                return (short) value;
            case 2:
                return (char) value;
            case 3:
                return (int) value;
            default:
                return value;
        }
    }

    private static boolean alike(byte[] a, byte[] b, int n) {
        for (int i = 0; i < n; i++) {
            if (a[i] != b[i]) {
                return false;
            }
        }
        return true;
    }

    private void setLeaf(Tree tree, int leaf, int kind) {
        tree.kinds[leaf] = kind;
        digestLeaf(mill, kind, tape, tree.nodes[leaf]);
        tape.size = 0;
    }

    private int spotOf(Bytes bytes) {
        mill.begin(WIDE_START);
        mill.take(bytes.room, bytes.size);
        mill.finish();
        mill.write(node, WIDE_BYTES);
        return node[WIDE_BYTES - 1] & SPOT_MASK;
    }

    private static void digestLeaf(Mill mill, int kind, Bytes bytes, byte[] to) {
        mill.begin(WIDE_START);
        mill.takeByte(LEAF_MARK);
        mill.takeByte(kind);
        mill.takeByte(bytes.size);
        mill.take(bytes.room, bytes.size);
        mill.finish();
        mill.write(to, WIDE_BYTES);
    }

    /** The result may go where one of the two stands: both are read before it is written. */
    private static void digestPair(Mill mill, byte[] left, byte[] right, byte[] to) {
        mill.begin(WIDE_START);
        mill.takeByte(PAIR_MARK);
        mill.take(left, WIDE_BYTES);
        mill.take(right, WIDE_BYTES);
        mill.finish();
        mill.write(to, WIDE_BYTES);
    }

    /** Leaves the root in the mill, since a root on the shelf needs its last block too. */
    private static void digestRoot(Mill mill, int leaves, byte[] top) {
        mill.begin(WIDE_START);
        mill.takeByte(ROOT_MARK);
        mill.takeByte(leaves);
        mill.take(top, WIDE_BYTES);
        mill.finish();
    }

    /** Makes W(16) to W(63) from W(0) to W(15). */
    private static void spread(int[] w) {
        for (int t = BLOCK_WORDS; t < ROUNDS; t++) {
            int x = w[t - 15];
            int y = w[t - 2];
            int s0 = Integer.rotateRight(x, 7) ^ Integer.rotateRight(x, 18) ^ (x >>> 3);
            int s1 = Integer.rotateRight(y, 17) ^ Integer.rotateRight(y, 19) ^ (y >>> 10);
            w[t] = s1 + w[t - 7] + s0 + w[t - 16];
        }
    }

    /** Up to 200 bytes: the tape, or the key that it became. */
    private static final class Bytes {
        final byte[] room = new byte[TAPE_MOST];
        int size;
    }

    /** Works the blocks of one message after the other. */
    private static final class Mill {
        final int[] h = new int[8];
        // The bytes of a block go straight into its words, so no room of their own is needed.
        final int[] w = new int[ROUNDS];
        int filled;
        int came;
        int blocks;

        void begin(int[] start) {
            System.arraycopy(start, 0, h, 0, h.length);
            filled = 0;
            came = 0;
            blocks = 0;
        }

        void take(byte[] from, int n) {
            for (int i = 0; i < n; i++) {
                put(from[i]);
            }
            came += n;
        }

        void takeByte(int b) {
            put(b);
            came++;
        }

        /** Pads the message; its digest stands in h then, its last block in w. */
        void finish() {
            long bits = 8L * came;
            put(128);
            int zeros = (LENGTH_AT + BLOCK_BYTES - filled) % BLOCK_BYTES;
            for (int i = 0; i < zeros; i++) {
                put(0);
            }
            for (int shift = 56; shift >= 0; shift -= 8) {
                put((int) (bits >>> shift));
            }
        }

        void write(byte[] to, int n) {
            for (int i = 0; i < n; i++) {
                to[i] = (byte) (h[i / 4] >>> (24 - 8 * (i % 4)));
            }
        }

        private void put(int b) {
            // Four shifts push out whatever the word held for the block before.
            w[filled / 4] = (w[filled / 4] << 8) | (b & 255);
            filled++;
            if (filled == BLOCK_BYTES) {
                filled = 0;
                blocks++;
                work();
            }
        }

        private void work() {
            spread(w);
            int a = h[0], b = h[1], c = h[2], d = h[3], e = h[4], f = h[5], g = h[6], last = h[7];
            for (int t = 0; t < ROUNDS; t++) {
                int x = last + (Integer.rotateRight(e, 6) ^ Integer.rotateRight(e, 11) ^ Integer.rotateRight(e, 25))
                        + ((e & f) ^ (~e & g)) + K[t] + w[t];
                int y = (Integer.rotateRight(a, 2) ^ Integer.rotateRight(a, 13) ^ Integer.rotateRight(a, 22))
                        + ((a & b) ^ (a & c) ^ (b & c));
                last = g;
                g = f;
                f = e;
                e = d + x;
                d = c;
                c = b;
                b = a;
                a = x + y;
            }
            h[0] += a;
            h[1] += b;
            h[2] += c;
            h[3] += d;
            h[4] += e;
            h[5] += f;
            h[6] += g;
            h[7] += last;
        }
    }

    /** One message of any sort, in as many pieces as it comes. */
    private static final class Message {
        final Mill mill;
        final byte[] lock = new byte[BLOCK_BYTES];
        final byte[] inner = new byte[WIDE_BYTES];
        boolean isOpen;
        int sort;
        int came;
        int blocks;

        Message(Mill mill) {
            this.mill = mill;
        }

        void begin(int newSort, Bytes secret) {
            sort = newSort;
            came = 0;
            blocks = 0;
            if (sort == KEYED) {
                makeLock(secret);
                beginLocked(INNER_MASK);
            } else {
                mill.begin(sort == NARROW ? NARROW_START : WIDE_START);
            }
        }

        void take(Bytes piece) {
            mill.take(piece.room, piece.size);
            came += piece.size;
        }

        int finish(Shelf shelf) {
            mill.finish();
            blocks += mill.blocks;
            if (sort == KEYED) {
                mill.write(inner, WIDE_BYTES);
                beginLocked(OUTER_MASK);
                mill.take(inner, WIDE_BYTES);
                mill.finish();
                blocks += mill.blocks;
            }
            return shelf.add(sort, blocks, mill);
        }

        /** Kept for the message's end: the key may have become another one by then. */
        private void makeLock(Bytes secret) {
            Arrays.fill(lock, (byte) 0);
            if (secret.size <= BLOCK_BYTES) {
                System.arraycopy(secret.room, 0, lock, 0, secret.size);
                return;
            }
            mill.begin(WIDE_START);
            mill.take(secret.room, secret.size);
            mill.finish();
            mill.write(lock, WIDE_BYTES);
            blocks += mill.blocks;
        }

        private void beginLocked(int mask) {
            mill.begin(WIDE_START);
            for (int i = 0; i < BLOCK_BYTES; i++) {
                mill.takeByte(lock[i] ^ mask);
            }
        }
    }

    /** The digests, as they came. */
    private static final class Shelf {
        final byte[][] bytes = new byte[DIGESTS_MOST][WIDE_BYTES];
        final int[][] lasts = new int[DIGESTS_MOST][BLOCK_WORDS];
        final int[] sorts = new int[DIGESTS_MOST];
        final int[] blocks = new int[DIGESTS_MOST];
        final int[] words = new int[ROUNDS];
        int count;

        boolean has(int digest) {
            return digest >= 0 && digest < count;
        }

        boolean isFull() {
            return count >= DIGESTS_MOST;
        }

        /** Takes what the mill has just finished; the callers have asked isFull. */
        int add(int sort, int blocksInAll, Mill mill) {
            int number = count;
            sorts[number] = sort;
            blocks[number] = blocksInAll;
            mill.write(bytes[number], bytesOf(sort));
            System.arraycopy(mill.w, 0, lasts[number], 0, BLOCK_WORDS);
            count++;
            return number;
        }

        /** Only 16 words of a block are kept: the others follow from them. */
        int wordOfLast(int digest, int t) {
            System.arraycopy(lasts[digest], 0, words, 0, BLOCK_WORDS);
            spread(words);
            return words[t];
        }
    }

    /** The leaves' digests; behind them, after a climb, those of the levels above. */
    private static final class Tree {
        final int[] kinds = new int[LEAVES_MOST];
        final byte[][] nodes = new byte[NODES_MOST][WIDE_BYTES];
        int count;

        boolean has(int leaf) {
            return leaf >= 0 && leaf < count;
        }

        byte[] climb(Mill mill) {
            if (count == 0) {
                Arrays.fill(nodes[0], (byte) 0);
                return nodes[0];
            }
            int start = 0;
            for (int n = count; n > 1; n = (n + 1) / 2) {
                int above = start + n;
                for (int i = 0; i + 1 < n; i += 2) {
                    digestPair(mill, nodes[start + i], nodes[start + i + 1], nodes[above + i / 2]);
                }
                if (n % 2 == 1) {
                    System.arraycopy(nodes[above - 1], 0, nodes[above + n / 2], 0, WIDE_BYTES);
                }
                start = above;
            }
            return nodes[start];
        }
    }

    /** What stood beside a leaf, and beside what it went into, from below. */
    private static final class Proof {
        final byte[][] beside = new byte[PROOF_MOST][WIDE_BYTES];
        int count;

        /** How many stand beside leaf i of n on its way up. */
        static int due(int n, int i) {
            int many = 0;
            int at = i;
            for (int left = n; left > 1; left = (left + 1) / 2) {
                if ((at ^ 1) < left) {
                    many++;
                }
                at /= 2;
            }
            return many;
        }

        /** Reads the levels that the tree's latest climb has left behind its leaves. */
        void gather(Tree tree, int leaf) {
            count = 0;
            int start = 0;
            int at = leaf;
            for (int n = tree.count; n > 1; n = (n + 1) / 2) {
                int other = at ^ 1;
                if (other < n) {
                    System.arraycopy(tree.nodes[start + other], 0, beside[count], 0, WIDE_BYTES);
                    count++;
                }
                start += n;
                at /= 2;
            }
        }

        /** Turns the digest of leaf i of n into the top; the caller has asked due. */
        void follow(Mill mill, int n, int i, byte[] node) {
            int k = 0;
            int at = i;
            for (int left = n; left > 1; left = (left + 1) / 2) {
                if ((at ^ 1) < left) {
                    boolean isRight = at % 2 == 1;
                    digestPair(mill, isRight ? beside[k] : node, isRight ? node : beside[k], node);
                    k++;
                }
                at /= 2;
            }
        }
    }

    /** Rows, no two alike, found by their spots. */
    private static final class Store {
        final byte[][] rows = new byte[ROWS_MOST][ROW_MOST];
        final int[] sizes = new int[ROWS_MOST];
        final int[] spots = new int[ROWS_MOST];
        int count;
        int compared;
        // Apart from compared, since a refused keep() has looked but must change nothing.
        int looked;

        int seek(Bytes wanted, int spot) {
            looked = 0;
            for (int i = 0; i < count; i++) {
                if (spots[i] == spot) {
                    looked++;
                    if (sizes[i] == wanted.size && alike(rows[i], wanted.room, wanted.size)) {
                        return i;
                    }
                }
            }
            return NONE;
        }

        /** The caller has asked whether there is room for one more. */
        int add(Bytes from, int spot) {
            int number = count;
            System.arraycopy(from.room, 0, rows[number], 0, from.size);
            sizes[number] = from.size;
            spots[number] = spot;
            count++;
            return number;
        }

        int pairsThatMeet() {
            int pairs = 0;
            for (int i = 0; i < count; i++) {
                for (int j = i + 1; j < count; j++) {
                    if (spots[i] == spots[j]) {
                        pairs++;
                    }
                }
            }
            return pairs;
        }
    }
}
