import java.util.Arrays;

/** What trees, proofs, rows and refusals are, under 'Terms': the bytes of each node are read out of proofs. */
final class TreeTermsTest {
    private static final int TREE = 2;

    public static void main(String[] args) {
        Sentences.run(TreeTermsTest.class);
    }

    private static byte[] leafDigest(int kind, byte... row) {
        return Rules.wide(Model.join(new byte[] {0, (byte) kind, (byte) row.length}, row));
    }

    private static byte[] pairDigest(byte[] left, byte[] right) {
        return Rules.wide(Model.join(new byte[] {1}, Model.join(left, right)));
    }

    private static byte[] rootDigest(int leaves, byte[] top) {
        return Rules.wide(Model.join(new byte[] {2, (byte) leaves}, top));
    }

    /** Leaves of all kinds and of other bytes each; their digests. */
    private static byte[][] grow(Pair p, int leaves) {
        byte[][] digests = new byte[leaves][];
        for (int i = 0; i < leaves; i++) {
            byte[] row = Pair.bytes(1 + i % 3, 40 + i);
            p.feedAll(row);
            p.due(i + 1, "leaf", TREE, i % 8);
            digests[i] = leafDigest(i % 8, row);
        }
        return digests;
    }

    /** The nodes of each level from the leaves to the top. */
    private static byte[][][] levels(byte[][] leaves) {
        byte[][][] levels = {leaves};
        for (byte[][] below = leaves; below.length > 1; ) {
            byte[][] level = new byte[(below.length + 1) / 2][];
            for (int i = 0; i < level.length; i++) {
                boolean alone = 2 * i + 1 == below.length;
                level[i] = alone ? below[2 * i] : pairDigest(below[2 * i], below[2 * i + 1]);
            }
            levels = Arrays.copyOf(levels, levels.length + 1);
            levels[levels.length - 1] = level;
            below = level;
        }
        return levels;
    }

    @Says(part = "Terms", words = "Of a LEAF: WIDE of 0, kind, how many bytes (each a byte), these")
    static void terms_of_a_LEAF(String title) {
        for (int kind = 0; kind <= 7; kind++) {
            for (int size : new int[] {0, 1, 2, 39, 40}) {
                Pair p = new Pair(title + ", kind " + kind + ", " + size + " bytes");
                byte[] row = Pair.bytes(size, 80 + kind);
                p.due(1, "leaf", TREE, 0);
                p.feedAll(row);
                p.due(2, "leaf", TREE, kind);
                p.due(1, "prove", TREE, 0);
                p.dueBeside(leafDigest(kind, row), 0);
                // One that has become it is as one that was it from the first.
                p.feedAll(row);
                p.due(0, "change", TREE, 0, kind);
                p.due(1, "prove", TREE, 1);
                p.dueBeside(leafDigest(kind, row), 0);
            }
        }
    }

    @Says(part = "Terms", words = "Of two that stand below one: WIDE of 1, the left one's 32 bytes, the right one's")
    static void terms_of_two_that_stand_below_one(String title) {
        Pair p = new Pair(title);
        byte[][] leaves = grow(p, 3);
        p.due(1, "prove", TREE, 2);
        p.dueBeside(pairDigest(leaves[0], leaves[1]), 0);
        p.due(0, "root", TREE);
        p.dueBytes(rootDigest(3, pairDigest(pairDigest(leaves[0], leaves[1]), leaves[2])), 0);
        // The same two the other way round are not the same.
        Pair turned = new Pair(title + ", the other way round");
        for (int i = 1; i <= 2; i++) {
            turned.due(1, "feed", 1, i);
            turned.due(i, "leaf", 0, 0);
            turned.due(1, "feed", 1, 3 - i);
            turned.due(i, "leaf", 1, 0);
        }
        turned.due(0, "root", 0);
        turned.due(1, "root", 1);
        turned.due(0, "same", 0, 1);
    }

    @Says(part = "Terms", words = "LEVELS: LEAVES; then of each the first two, the next two, ..; a last one alone goes up as it is; "
        + "until there is one, the TOP (of no LEAVES 32 bytes 0)")
    static void terms_LEVELS(String title) {
        for (int n = 1; n <= 12; n++) {
            Pair p = new Pair(title + ", " + n + " leaves");
            byte[][][] levels = levels(grow(p, n));
            p.due(0, "root", TREE);
            p.dueBytes(rootDigest(n, levels[levels.length - 1][0]), 0);
        }
        Pair none = new Pair(title + ", no leaves");
        none.due(0, "root", TREE);
        none.dueBytes(rootDigest(0, new byte[32]), 0);
    }

    @Says(part = "Terms", words = "THE ROOT is WIDE of 2, how many LEAVES (a byte), the TOP")
    static void terms_THE_ROOT(String title) {
        Pair p = new Pair(title);
        p.due(2, "feed", 2, 0x0708);
        p.due(1, "leaf", TREE, 5);
        byte[] leaf = leafDigest(5, (byte) 7, (byte) 8);
        p.due(0, "root", TREE);
        p.dueBytes(rootDigest(1, leaf), 0);
        // One leaf is its own top, but the root is of it, not it; nor is it that of another number of leaves.
        p.due(5, "feed", 5, 0x0005020708L);
        p.due(1, "digest", 0);
        p.dueBytes(leaf, 1);
        p.due(0, "same", 0, 1);
        for (int n = 0; n <= 2; n++) {
            p.feedAll(Model.join(new byte[] {2, (byte) n}, leaf));
            p.due(2 + n, "digest", 0);
            p.due(n == 1 ? 1 : 0, "same", 0, 2 + n);
        }
    }

    @Says(part = "Terms", words = "A PROOF of a LEAF: those that stood beside it, or beside what it went into, from below "
        + "(none, where it went up alone)")
    static void terms_a_PROOF_of_a_LEAF(String title) {
        for (int n = 1; n <= 12; n++) {
            for (int leaf = 0; leaf < n; leaf++) {
                Pair p = new Pair(title + ", leaf " + leaf + " of " + n);
                byte[][][] levels = levels(grow(p, n));
                byte[][] beside = new byte[4][];
                int many = 0;
                for (int level = 0; level < levels.length; level++) {
                    int other = leaf >> level ^ 1;
                    if (other < levels[level].length) {
                        beside[many++] = levels[level][other];
                    }
                }
                p.due(many, "prove", TREE, leaf);
                for (int k = 0; k < many; k++) {
                    p.dueBeside(beside[k], k);
                }
                p.due(Edge.UNKNOWN, "alter", many, 0, 0);
            }
        }
    }

    @Says(part = "Terms", words = "A ROW is looked for among those of its SPOT, from the first on, each being compared whole, "
        + "till it is found")
    static void terms_looked_for_among_those_of_its_SPOT(String title) {
        // Three rows of each of twelve spots, those of one spot far apart: each is looked for among its own three alone.
        Pair p = new Pair(title);
        for (int i = 0; i < 36; i++) {
            p.due(2, "feed", 2, Edge.meeting(i % 12, 3)[i / 12]);
            p.due(i, "keep");
            p.due(i / 12, "about", 4);
        }
        for (int i = 35; i >= 0; i--) {
            p.due(2, "feed", 2, Edge.meeting(i % 12, 3)[i / 12]);
            p.due(i, i % 2 == 0 ? "find" : "keep");
            p.due(i / 12 + 1, "about", 4);
        }
        for (int spot = 0; spot < 16; spot++) {
            p.due(2, "feed", 2, Edge.meeting(spot, 4)[3]);
            p.due(Edge.NONE, "find");
            p.due(spot < 12 ? 3 : 0, "about", 4);
        }
        p.due(36, "about", 3);
    }

    @Says(part = "Terms", words = "Refusals are answers: UNKNOWN (a number names nothing), OUTSIDE (not as told), FULL, STATE")
    static void terms_refusals_are_answers(String title) {
        // No call that is refused throws; the longs are the same numbers.
        DigestTrees made = new DigestTrees();
        long[] unknown = {made.told(0, 0), made.read(0, 0, 0), made.plan(0, 0), made.same(0, 0), made.change(0, 0, 0),
            made.prove(0, 0), made.alter(0, 0, 0), made.check(0, 1, 0, 0)};
        long[] outside = {made.feed(0, 0), made.digest(3), made.open(4, 0), made.more(4), made.end(4), made.leaf(4, 0),
            made.change(4, 0, 0), made.root(4), made.drop(4), made.prove(4, 0), made.about(6)};
        long[] state = {made.more(0), made.end(0)};
        for (long answer : unknown) {
            Report.expect(answer == -101, title + ": UNKNOWN is " + answer);
        }
        for (long answer : outside) {
            Report.expect(answer == -102, title + ": OUTSIDE is " + answer);
        }
        for (long answer : state) {
            Report.expect(answer == -104, title + ": STATE is " + answer);
        }
        Pair p = new Pair(title);
        for (int d = 0; d < Edge.DIGESTS; d++) {
            p.due(d, "digest", 0);
        }
        p.due(-103, "digest", 0);
    }

    private TreeTermsTest() { }
}
