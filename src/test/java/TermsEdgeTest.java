import java.util.Arrays;

/** The boundary cases that stand under 'Terms', and the one under 'What it is'. */
final class TermsEdgeTest {
    private static final long NONE = Edge.NONE, UNKNOWN = Edge.UNKNOWN, OUTSIDE = Edge.OUTSIDE, FULL = Edge.FULL,
        STATE = Edge.STATE;
    private static final String BOUNDS = Edge.BOUNDS, NULL = Edge.NULL;

    public static void main(String[] args) {
        Sentences.run(TermsEdgeTest.class);
    }

    @Says(part = "Terms", words = "WORDS are ints; sums go round")
    static void terms_sums_go_round(String title) {
        Edge e = new Edge(title);
        for (int i = 0; i < 6; i++) {
            e.call("feed", 8, -1);
        }
        e.due(0, "digest", 0);
        int[] w = new int[64];
        for (int t = 0; t < 64; t++) {
            w[t] = Integer.parseInt(e.call("plan", 0, t));
        }
        boolean wentRound = false;
        for (int t = 16; t < 64; t++) {
            int s1 = Integer.rotateRight(w[t - 2], 17) ^ Integer.rotateRight(w[t - 2], 19) ^ (w[t - 2] >>> 10);
            int s0 = Integer.rotateRight(w[t - 15], 7) ^ Integer.rotateRight(w[t - 15], 18) ^ (w[t - 15] >>> 3);
            long sum = low(s1) + low(w[t - 7]) + low(s0) + low(w[t - 16]);
            wentRound |= sum >>> 32 != 0;
            e.due((int) sum, "plan", 0, t);
        }
        Report.expect(wentRound, title + ": no sum went round");
        e.lookAt(0);
    }

    private static long low(int word) {
        return word & 0xffffffffL;
    }

    @Says(part = "Terms", words = "K(0) .. K(63) are the first 32 bits behind the point of the cube roots of the first 64 primes")
    static void terms_K0_to_K63(String title) {
        Edge e = new Edge(title);
        e.due(0x428a2f98, "table", 0);
        e.due(0xc67178f2, "table", 63);
        for (int t = 0; t < 64; t++) {
            e.call("table", t);
        }
    }

    @Says(part = "Terms", words = "as few 0 as may be")
    static void terms_as_few_0_as_may_be(String title) {
        int[][] sizesAndBlocks = {{0, 1}, {54, 1}, {55, 1}, {56, 2}, {63, 2}, {64, 2}, {65, 2}, {118, 2}, {119, 2},
            {120, 3}, {127, 3}, {128, 3}, {183, 3}, {184, 4}, {191, 4}, {192, 4}, {200, 4}};
        for (int[] each : sizesAndBlocks) {
            Edge e = new Edge(title + ", " + each[0] + " bytes");
            for (int sort = 0; sort <= 2; sort++) {
                e.feedMany(each[0], 3);
                e.due(sort, "digest", sort);
                // KEYED has a block more ahead of the message, and two blocks of its own behind.
                e.due(each[1] + (sort == 2 ? 3 : 0), "told", sort, 2);
                e.due(0, "plan", sort, 14);
                e.due(sort == 2 ? 8 * 96 : 8 * each[0], "plan", sort, 15);
                e.lookAt(sort);
            }
        }
    }

    @Says(part = "Terms", words = "behind it 128, then as few 0 as may be, then how many bits it has in 8 bytes (the highest first)")
    static void terms_padding_of_a_key(String title) {
        int[][] sizesAndBlocks = {{65, 2}, {119, 2}, {120, 3}, {183, 3}, {184, 4}, {200, 4}};
        for (int[] each : sizesAndBlocks) {
            Edge e = new Edge(title + ", a key of " + each[0] + " bytes");
            e.feedMany(each[0], 3);
            e.due(each[0], "key");
            e.due(0, "digest", 2);
            e.due(4 + each[1], "told", 0, 2);
            e.lookAt(0);
        }
    }

    @Says(part = "Terms", words = "so that it has BLOCKS of 64 bytes")
    static void terms_padding_of_a_stream(String title) {
        int[][] sizesAndBlocks = {{1911, 30}, {1912, 31}, {1975, 31}, {1976, 32}, {1984, 32}, {2000, 32}};
        for (int[] each : sizesAndBlocks) {
            Edge e = new Edge(title + ", a stream of " + each[0] + " bytes");
            e.due(1, "open", 0, 0);
            e.fillStream(each[0]);
            e.due(0, "end", 0);
            e.due(each[1], "told", 0, 2);
            e.due(8 * each[0], "plan", 0, 15);
            e.lookAt(0);
        }
    }

    @Says(part = "Terms", words = "it is H0 .. H7 (32 bytes)")
    static void terms_32_bytes(String title) {
        Edge e = Edge.furnished(title);
        e.due(32, "told", 0, 1);
        e.due((byte) 0xba, "read", 0, 0, 0);
        e.due((byte) 0xad, "read", 0, 0, 31);
        e.due(BOUNDS, "read", 0, 0, 32);
    }

    @Says(part = "Terms", words = "H0 .. H6 (28 bytes)")
    static void terms_28_bytes(String title) {
        Edge e = new Edge(title);
        e.due(3, "feed", 3, 0x616263);
        e.due(0, "digest", 1);
        e.due(28, "told", 0, 1);
        e.due((byte) 0x23, "read", 0, 0, 0);
        e.due((byte) 0xa7, "read", 0, 0, 27);
        e.due(BOUNDS, "read", 0, 0, 28);
    }

    @Says(part = "Terms", words = "KEY, or WIDE of it, if it has more than 64 bytes")
    static void terms_KEY_of_64_bytes_and_of_65(String title) {
        int[][] sizesAndBlocks = {{1, 4}, {63, 4}, {64, 4}, {65, 6}, {66, 6}, {200, 8}};
        for (int[] each : sizesAndBlocks) {
            Edge e = new Edge(title + ", " + each[0] + " bytes");
            byte[] key = Pair.bytes(each[0], 1);
            keyedBy(e, key);
            keyedBy(e, Model.wide(key));
            e.due(each[0] > 64 ? 1 : 0, "same", 0, 1);
            e.due(each[1], "told", 0, 2);
            e.due(4, "told", 1, 2);
            e.lookAt(0);
        }
    }

    @Says(part = "Terms", words = "and 0s behind up to 64, being L")
    static void terms_KEY_of_no_bytes(String title) {
        Edge e = new Edge(title);
        keyedBy(e);
        keyedBy(e, (byte) 0);
        keyedBy(e, new byte[64]);
        keyedBy(e, new byte[65]);
        keyedBy(e, (byte) 7);
        keyedBy(e, (byte) 7, (byte) 0);
        keyedBy(e, Arrays.copyOf(new byte[] {7}, 64));
        keyedBy(e, Arrays.copyOf(new byte[] {7}, 65));
        keyedBy(e);
        int[] group = {0, 0, 0, 1, 2, 2, 2, 3, 0};
        for (int a = 0; a < group.length; a++) {
            for (int b = 0; b < group.length; b++) {
                e.due(group[a] == group[b] ? 1 : 0, "same", a, b);
            }
        }
        e.lookAt(0);
        e.lookAt(8);
    }

    private static void keyedBy(Edge e, byte... key) {
        e.feedAll(key);
        e.due(key.length, "key");
        e.feedMany(10, 3);
        e.call("digest", 2);
    }

    @Says(part = "Terms", words = "DIGESTS are kept as they come, by numbers from 0 on, 60 at most")
    static void terms_DIGESTS_60_at_most(String title) {
        String[] ways = {"digest", "end", "root"};
        for (String way : ways) {
            Edge e = Edge.furnished(title + ", the last by " + way);
            e.fillDigests(Edge.DIGESTS - 1);
            e.due(UNKNOWN, "told", 59, 0);
            e.due(59, way, 0);
            e.due(60, "about", 1);
            e.lookAt(59);
            e.due(UNKNOWN, "told", 60, 0);
            e.due(FULL, "digest", 0);
            e.due(FULL, "end", 2);
            e.due(FULL, "root", 1);
            e.due(60, "about", 1);
        }
    }

    @Says(part = "Terms", words = "STREAMS 0 .. 3 are shut (at first), or open, of a SORT")
    static void terms_STREAMS_0_to_3(String title) {
        Edge e = new Edge(title);
        for (int s = 0; s <= 3; s++) {
            e.due(STATE, "more", s);
            e.due(STATE, "end", s);
        }
        for (int s = 0; s <= 3; s++) {
            e.due(1, "open", s, s % 3);
            e.due(STATE, "open", s, s % 3);
        }
        for (int s : Edge.wrong(0, 3)) {
            e.due(OUTSIDE, "open", s, 0);
            e.due(OUTSIDE, "more", s);
            e.due(OUTSIDE, "end", s);
        }
        for (int s = 0; s <= 3; s++) {
            e.due(s, "end", s);
            e.due(s % 3, "told", s, 0);
        }
    }

    @Says(part = "Terms", words = "(of 2 by KEY as it was then)")
    static void terms_KEY_as_it_was_then(String title) {
        int[][] thenAndLater = {{0, 64}, {3, 0}, {64, 65}, {65, 64}, {200, 0}, {0, 200}};
        for (int[] each : thenAndLater) {
            Edge e = new Edge(title + ", of " + each[0] + " bytes then, of " + each[1] + " later");
            e.feedMany(each[0], 1);
            e.due(each[0], "key");
            e.feedMany(9, 5);
            e.due(0, "digest", 2);
            e.due(1, "open", 3, 2);
            e.feedMany(each[1], 2);
            e.due(each[1], "key");
            e.feedMany(9, 5);
            e.due(9, "more", 3);
            e.due(1, "end", 3);
            e.due(1, "same", 0, 1);
            e.lookAt(1);
        }
    }

    @Says(part = "Terms", words = "what comes in pieces is one MESSAGE")
    static void terms_pieces_are_one_MESSAGE(String title) {
        int[][] cuts = {{0, 0}, {0, 5}, {5, 0}, {1, 54}, {55, 1}, {63, 1}, {64, 64}, {1, 63}, {120, 80}, {100, 0, 100}};
        for (int[] cut : cuts) {
            Edge e = new Edge(title + ", pieces of " + Arrays.toString(cut));
            e.feedMany(5, 5);
            e.due(5, "key");
            for (int sort = 0; sort <= 2; sort++) {
                byte[] all = Pair.bytes(Arrays.stream(cut).sum(), 8);
                e.due(1, "open", sort, sort);
                int at = 0;
                for (int n : cut) {
                    e.feedAll(Arrays.copyOfRange(all, at, at + n));
                    at += n;
                    e.due(at, "more", sort);
                }
                e.feedAll(all);
                e.due(2 * sort, "digest", sort);
                e.due(2 * sort + 1, "end", sort);
                e.due(1, "same", 2 * sort, 2 * sort + 1);
                e.lookAt(2 * sort + 1);
            }
        }
    }

    @Says(part = "Terms", words = "TREES 0 .. 3 have LEAVES, 12 at most: a kind 0 .. 7 and up to 40 bytes")
    static void terms_LEAVES_12_at_most(String title) {
        for (int tree = 0; tree <= 3; tree++) {
            Edge e = new Edge(title + ", tree " + tree);
            for (int i = 1; i <= 12; i++) {
                e.feedMany(i % 3 == 0 ? 40 : 0, i);
                e.due(i, "leaf", tree, i % 8);
            }
            e.due(FULL, "leaf", tree, 0);
            e.feedMany(40, 0);
            e.due(FULL, "leaf", tree, 7);
            e.due(41, "feed", 1, 0);
            e.due(OUTSIDE, "leaf", (tree + 1) % 4, 0);
            e.due(41, "key");
            e.due(OUTSIDE, "leaf", (tree + 1) % 4, 8);
            e.due(OUTSIDE, "leaf", (tree + 1) % 4, -1);
            for (int other = 0; other <= 3; other++) {
                e.due(other, "root", other);
                e.lookAt(other);
                e.due(other == tree ? 12 : 0, "drop", other);
            }
        }
        Edge e = Edge.furnished(title);
        for (int tree : Edge.wrong(0, 3)) {
            e.due(OUTSIDE, "leaf", tree, 0);
        }
    }

    @Says(part = "Terms", words = "a last one alone goes up as it is")
    static void terms_a_last_one_alone_goes_up(String title) {
        for (int n = 1; n <= 12; n++) {
            Edge e = new Edge(title + ", " + n + " leaves");
            byte[][] leaves = new byte[n][];
            for (int i = 0; i < n; i++) {
                leaves[i] = Model.wide(new byte[] {0, (byte) (i % 8), 2, 0x50, (byte) i});
                e.feedLeaf(i);
                e.due(i + 1, "leaf", 0, i % 8);
            }
            e.due(0, "root", 0);
            e.feedAll(Model.join(new byte[] {2, (byte) n}, top(leaves, 0, n)));
            e.due(1, "digest", 0);
            e.due(1, "same", 0, 1);
        }
    }

    /** Said in another way than by levels: on the left stands the largest power of two that leaves something. */
    private static byte[] top(byte[][] leaves, int from, int n) {
        if (n == 1) {
            return leaves[from];
        }
        int left = Integer.highestOneBit(n - 1);
        byte[] both = Model.join(top(leaves, from, left), top(leaves, from + left, n - left));
        return Model.wide(Model.join(new byte[] {1}, both));
    }

    @Says(part = "Terms", words = "(of no LEAVES 32 bytes 0)")
    static void terms_of_no_LEAVES_32_bytes_0(String title) {
        Edge e = new Edge(title);
        e.feedAll(Model.join(new byte[] {2}, new byte[33]));
        e.due(0, "digest", 0);
        for (int tree = 0; tree <= 3; tree++) {
            e.due(tree + 1, "root", tree);
            e.due(1, "same", 0, tree + 1);
        }
        e.due(1, "leaf", 0, 0);
        e.due(5, "root", 0);
        e.due(0, "same", 0, 5);
        e.due(1, "drop", 0);
        e.due(6, "root", 0);
        e.due(1, "same", 0, 6);
    }

    @Says(part = "Terms", words = "(none, where it went up alone)")
    static void terms_none_where_it_went_up_alone(String title) {
        int[] ofTheLast = {0, 1, 1, 2, 1, 2, 2, 3, 1, 2, 2, 3};
        int[] ofTheFirst = {0, 1, 2, 2, 3, 3, 3, 3, 4, 4, 4, 4};
        Edge e = new Edge(title);
        for (int n = 1; n <= 12; n++) {
            e.feedLeaf(n - 1);
            e.due(n, "leaf", 0, 0);
            for (int i = 0; i < n; i += Math.max(1, n - 1)) {
                int many = i == 0 ? ofTheFirst[n - 1] : ofTheLast[n - 1];
                e.due(many, "prove", 0, i);
                e.due(UNKNOWN, "alter", many, 0, 0);
            }
        }
        // Of nine the last one goes up alone three times: beside it stands only what the eight came to.
        Edge nine = new Edge(title + ", the last of nine");
        byte[][] leaves = new byte[8][];
        for (int i = 0; i < 9; i++) {
            nine.feedLeaf(i);
            nine.due(i + 1, "leaf", 1, 0);
            if (i < 8) {
                leaves[i] = Model.wide(new byte[] {0, 0, 2, 0x50, (byte) i});
            }
        }
        nine.due(1, "prove", 1, 8);
        byte[] eight = top(leaves, 0, 8);
        for (int i = 0; i < 32; i++) {
            nine.due(eight[i] & 255, "alter", 0, i, 0);
        }
    }

    @Says(part = "Terms", words = "THE STORE has ROWS, 40 at most, of up to 40 bytes each, no two alike, by numbers from 0 on")
    static void terms_ROWS_40_at_most(String title) {
        Edge e = new Edge(title);
        // From none to 39 bytes; then one of 40 bytes as the last row that is taken.
        for (int n = 0; n <= 40; n++) {
            if (n != 20) {
                e.feedMany(n, 7);
                e.due(n < 20 ? n : n - 1, "keep");
            }
        }
        e.due(40, "about", 2);
        e.feedMany(20, 7);
        e.due(FULL, "keep");
        e.due(NONE, "find");
        e.feedMany(40, 7);
        e.due(39, "keep");
        e.due(0, "keep");
        e.due(40, "about", 2);
        e.due(BOUNDS, "row", 0, 0);
        e.call("row", 39, 39);
        e.due(BOUNDS, "row", 39, 40);
        e.feedMany(41, 7);
        e.due(OUTSIDE, "keep");
    }

    @Says(part = "Terms", words = "The SPOT of a ROW are the lowest 4 bits of byte 31 of WIDE of it")
    static void terms_SPOT_lowest_4_bits(String title) {
        // One row of each of the 16 spots: none meet; then a row of one spot meets one alone.
        Edge e = new Edge(title);
        for (int spot = 0; spot < 16; spot++) {
            e.due(2, "feed", 2, Edge.meeting(spot, 2)[0]);
            e.due(spot, "keep");
            e.due(0, "about", 3);
            e.due(0, "about", 4);
        }
        for (int spot = 0; spot < 16; spot++) {
            e.due(2, "feed", 2, Edge.meeting(spot, 2)[1]);
            e.due(16 + spot, "keep");
            e.due(spot + 1, "about", 3);
            e.due(1, "about", 4);
        }
    }

    @Says(part = "Terms", words = "from the first on, each being compared whole, till it is found")
    static void terms_compared_whole_till_it_is_found(String title) {
        Edge e = new Edge(title);
        int[] meeting = Edge.meeting(3, 5);
        for (int i = 0; i < 4; i++) {
            e.due(2, "feed", 2, meeting[i]);
            e.due(i, "keep");
            e.due(i, "about", 4);
        }
        for (int i = 0; i < 4; i++) {
            e.due(2, "feed", 2, meeting[i]);
            e.due(i, "find");
            e.due(i + 1, "about", 4);
        }
        e.due(2, "feed", 2, meeting[4]);
        e.due(NONE, "find");
        e.due(4, "about", 4);
        byte[] row = {9, 9};
        byte[] longer = meetingIt(row, 3);
        byte[] other = meetingIt(longer, 3);
        byte[] zero = meetingItsZero();
        byte[] zeroMore = Arrays.copyOf(zero, 3);
        rowsThatBeginAlike(title + ", the shorter one first", row, longer, other);
        rowsThatBeginAlike(title + ", the longer one first", other, longer, row);
        rowsThatBeginAlike(title + ", a 0 more", zero, zeroMore);
        rowsThatBeginAlike(title + ", a 0 less", zeroMore, zero);
    }

    /** Rows of one spot that differ in length alone, or in the last byte alone, are not one. */
    private static void rowsThatBeginAlike(String title, byte[]... rows) {
        Edge e = new Edge(title);
        for (int i = 0; i < rows.length; i++) {
            e.feedAll(rows[i]);
            e.due(NONE, "find");
            e.due(i, "about", 4);
            e.feedAll(rows[i]);
            e.due(i, "keep");
        }
        for (int i = rows.length - 1; i >= 0; i--) {
            e.feedAll(rows[i]);
            e.due(i, "find");
            e.due(i + 1, "about", 4);
        }
    }

    /** A row that has the spot of itself with a 0 behind. */
    private static byte[] meetingItsZero() {
        byte[] row = {1, 0};
        while (Model.spot(row) != Model.spot(Arrays.copyOf(row, 3))) {
            row[1]++;
        }
        return row;
    }

    /** Another row of so many bytes, of the same spot, that differs from this one in its last byte alone. */
    private static byte[] meetingIt(byte[] row, int size) {
        byte[] other = Arrays.copyOf(row, size);
        do {
            other[size - 1]++;
        } while (Model.spot(other) != Model.spot(row));
        return other;
    }

    @Says(part = "Terms", words = "THE TAPE has up to 200 bytes")
    static void terms_TAPE_up_to_200_bytes(String title) {
        Edge e = Edge.furnished(title);
        e.fillTape(199);
        e.due(FULL, "feed", 2, 0);
        e.due(200, "feed", 1, 0x81);
        e.due(FULL, "feed", 1, 0x82);
        e.due(200, "about", 0);
        e.due(4, "digest", 0);
        e.lookAt(4);
        e.due(8, "feed", 8, 1);
    }

    @Says(part = "Terms", words = "UNKNOWN (a number names nothing), OUTSIDE (not as told), FULL, STATE")
    static void terms_refusals_are_answers(String title) {
        Report.expect(DigestTrees.NONE == -1 && DigestTrees.UNKNOWN == -101 && DigestTrees.OUTSIDE == -102
                && DigestTrees.FULL == -103 && DigestTrees.STATE == -104, title + ": the constants");
        Edge e = Edge.furnished(title);
        e.due(DigestTrees.UNKNOWN, "told", 4, 0);
        e.due(DigestTrees.OUTSIDE, "told", 3, 3);
        e.due(DigestTrees.STATE, "end", 3);
        e.fillDigests(Edge.DIGESTS);
        e.due(DigestTrees.FULL, "end", 0);
    }

    @Says(part = "Terms", words = "of several the first one that the call tells")
    static void terms_of_several_the_first(String title) {
        Edge e = allFull(title);
        // Each of these calls would be refused for a later reason too.
        e.due(OUTSIDE, "feed", 9, 0);
        e.due(OUTSIDE, "digest", 3);
        e.due(OUTSIDE, "open", 0, 3);
        e.due(STATE, "end", 1);
        e.due(OUTSIDE, "end", 4);
        e.due(UNKNOWN, "told", 60, 3);
        e.due(UNKNOWN, "read", 60, 5, 32);
        e.due(OUTSIDE, "read", 0, 5, 32);
        e.due(UNKNOWN, "plan", 60, 64);
        e.due(OUTSIDE, "leaf", 0, 8);
        e.due(OUTSIDE, "change", 4, 12, 8);
        e.due(UNKNOWN, "change", 0, 12, 8);
        e.due(OUTSIDE, "root", 4);
        e.due(OUTSIDE, "prove", 4, 12);
        e.due(UNKNOWN, "alter", 4, 32, 256);
        e.due(UNKNOWN, "check", 60, 13, 13, 8);
        e.due(OUTSIDE, "keep");
        e.due(BOUNDS, "row", 40, 40);
    }

    @Says(part = "Terms", words = "They change nothing; nor does what throws")
    static void terms_they_change_nothing(String title) {
        Edge e = Edge.furnished(title);
        for (int x : new int[] {Integer.MIN_VALUE, -1, 60, Integer.MAX_VALUE}) {
            e.due(OUTSIDE, "feed", x, 5);
            e.due(OUTSIDE, "digest", x);
            e.due(OUTSIDE, "open", x, 0);
            e.due(OUTSIDE, "open", 3, x);
            e.due(OUTSIDE, "more", x);
            e.due(OUTSIDE, "end", x);
            e.due(UNKNOWN, "told", x, 0);
            e.due(OUTSIDE, "told", 0, x);
            e.due(UNKNOWN, "read", x, 0, 0);
            e.due(OUTSIDE, "read", 0, x, 0);
            e.due(BOUNDS, "read", 0, 0, x);
            e.due(UNKNOWN, "plan", x, 0);
            e.due(UNKNOWN, "same", x, 0);
            e.due(OUTSIDE, "leaf", x, 0);
            e.due(OUTSIDE, "leaf", 1, x);
            e.due(OUTSIDE, "change", x, 0, 0);
            e.due(UNKNOWN, "change", 1, x, 0);
            e.due(OUTSIDE, "change", 1, 0, x);
            e.due(OUTSIDE, "root", x);
            e.due(OUTSIDE, "drop", x);
            e.due(OUTSIDE, "prove", x, 0);
            e.due(UNKNOWN, "prove", 1, x);
            e.due(UNKNOWN, "alter", x, 0, 1);
            e.due(OUTSIDE, "alter", 0, x, 1);
            e.due(UNKNOWN, "check", x, 5, 2, 2);
            e.due(BOUNDS, "row", x, 0);
            e.due(BOUNDS, "row", 1, x);
            e.due(OUTSIDE, "about", x);
        }
        e.due(NULL, "row", 5, 0);
        e.due(BOUNDS, "table", 64);
        e.due(BOUNDS, "plan", 0, 64);
        e.due(STATE, "open", 1, 0);
        e.due(STATE, "more", 3);
        e.due(STATE, "end", 3);
        e.due(1, "check", Edge.ROOT, Edge.ROOT_LEAVES, Edge.ROOT_LEAF, Edge.ROOT_LEAF);
    }

    @Says(part = "What it is", words = "An object is used for at most 512 calls after it has been made")
    static void whatitis_all_is_full_within_512_calls(String title) {
        Edge e = allFull(title);
        e.due(FULL, "feed", 1, 0);
        e.due(FULL, "digest", 0);
        e.due(FULL, "more", 0);
        e.due(FULL, "end", 0);
        e.due(FULL, "root", 0);
        e.due(200, "about", 0);
        e.due(60, "about", 1);
        e.due(40, "about", 2);
    }

    /** Tape, digests, a stream, all trees and the store are full; what a long tape would hide is asked on the way. */
    private static Edge allFull(String title) {
        Edge e = new Edge(title);
        e.due(1, "open", 0, 2);
        e.fillStream(2000);
        for (int i = 0; i < 48; i++) {
            e.due(i / 4 + 1, "leaf", i % 4, i % 8);
        }
        for (int row = 0; row < 40; row++) {
            e.due(2, "feed", 2, row);
            e.due(row, "keep");
        }
        for (int d = 0; d < 60; d++) {
            e.due(d, "root", d % 4);
        }
        e.due(4, "prove", 0, 0);
        e.due(8, "feed", 8, -1);
        e.due(FULL, "keep");
        for (int tree = 0; tree <= 3; tree++) {
            e.due(FULL, "leaf", tree, 7);
        }
        e.fillTape(200);
        return e;
    }

    private TermsEdgeTest() { }
}
