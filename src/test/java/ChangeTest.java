/** What each call answers and leaves changed when it is not refused, and that it changes nothing else. */
final class ChangeTest {
    private static final int STREAMS = 4, TREES = 4;

    // What furnish() leaves: the tape has 2 bytes, and there are 4 digests and 5 rows.
    private static final int TAPE = 2, DIGESTS = 4, ROWS = 5;

    public static void main(String[] args) {
        Sentences.run(ChangeTest.class);
    }

    /** The furnished tree 1 has five leaves, tree 3 has one. */
    private static int leaves(int tree) {
        return tree == 1 ? Edge.ROOT_LEAVES : tree == 3 ? 1 : 0;
    }

    /** The furnished leaves of tree 1 are of their own number's kind, that of tree 3 is of kind 7. */
    private static int kind(int tree, int leaf) {
        return tree == 3 ? 7 : leaf;
    }

    @Says(part = "Promise 1", words = "An empty TAPE, an empty KEY; nothing else is there")
    static void promise1_a_new_object(String title) {
        Edge e = new Edge(title);
        // All that can be asked is asked behind a call that looks at nothing.
        e.dueAll(0, "about", 0);
        e.dueAll(0xc67178f2, "table", 63);
    }

    @Says(part = "Promise 2", words = "The n lowest bytes of w, the highest of them first, come behind THE TAPE: how many it has")
    static void promise2_feed(String title) {
        for (int n = 1; n <= 8; n++) {
            Edge e = Edge.furnished(title + ", " + n + " bytes");
            e.dueAll(TAPE + n, "feed", n, 0xf1e2d3c4b5a69788L);
            e.dueAll(TAPE + n + 1, "feed", 1, 0x7fff00);
        }
    }

    @Says(part = "Promise 3", words = "KEY becomes THE TAPE, which is empty then: how many bytes")
    static void promise3_key(String title) {
        Edge e = Edge.furnished(title);
        e.dueAll(TAPE, "key");
        e.dueAll(0, "key");
        e.fillTape(100);
        e.dueAll(100, "key");
    }

    @Says(part = "Promise 4", words = "A DIGEST of a SORT of THE TAPE, which is empty then: its number")
    static void promise4_digest(String title) {
        for (int sort = 0; sort <= 2; sort++) {
            Edge e = Edge.furnished(title + ", sort " + sort);
            e.dueAll(DIGESTS, "digest", sort);
            e.dueAll(DIGESTS + 1, "digest", sort);
        }
    }

    @Says(part = "Promise 5", words = "A STREAM is opened: 1")
    static void promise5_open(String title) {
        for (int sort = 0; sort <= 2; sort++) {
            Edge.furnished(title + ", sort " + sort).dueAll(1, "open", 3, sort);
            // One that was shut again, of another sort and with bytes, has nothing of these.
            Edge again = Edge.furnished(title + ", sort " + sort + ", again");
            again.due(DIGESTS, "end", 2);
            again.dueAll(1, "open", 2, sort);
        }
    }

    @Says(part = "Promise 6", words = "THE TAPE, which is empty then, comes behind a STREAM: how many bytes came in all")
    static void promise6_more(String title) {
        int[] came = {0, 0, 70};
        for (int stream = 0; stream <= 2; stream++) {
            Edge e = Edge.furnished(title + ", stream " + stream);
            e.dueAll(came[stream] + TAPE, "more", stream);
            e.dueAll(came[stream] + TAPE, "more", stream);
            e.fillTape(64);
            e.dueAll(came[stream] + TAPE + 64, "more", stream);
        }
    }

    @Says(part = "Promise 7", words = "A STREAM is shut: its DIGEST's number")
    static void promise7_end(String title) {
        for (int stream = 0; stream <= 2; stream++) {
            Edge e = Edge.furnished(title + ", stream " + stream);
            e.dueAll(DIGESTS, "end", stream);
            e.dueAll(DIGESTS + 1, "end", (stream + 1) % 3);
        }
    }

    @Says(part = "Promise 8", words = "Of a DIGEST: its SORT (what = 0), how many bytes it has (1: 32, of SORT 1 28), how many BLOCKS "
        + "were gone through for it in all (2), also those of KEY (of a ROOT for itself alone: 1)")
    static void promise8_told(String title) {
        // Of "abc"; of 60 bytes; of none, by a key of 5 bytes; of tree 1.
        int[][] due = {{0, 32, 1}, {1, 28, 2}, {2, 32, 4}, {0, 32, 1}};
        Edge e = Edge.furnished(title);
        for (int digest = 0; digest < DIGESTS; digest++) {
            for (int what = 0; what <= 2; what++) {
                e.dueAll(due[digest][what], "told", digest, what);
            }
        }
        // The key is changed behind it: what is told of it stays.
        e.fillTape(100);
        e.due(100, "key");
        e.due(4, "told", 2, 2);
        e.due(DIGESTS, "digest", 2);
        e.due(4 + 2, "told", DIGESTS, 2);
    }

    @Says(part = "Promise 9", words = "What stands from byte i of a DIGEST on, the highest byte first: width 0 a byte, 1 a short, "
        + "2 a char (from 0 on; the others have signs), 3 an int, 4 a long")
    static void promise9_read(String title) {
        Edge e = Edge.furnished(title);
        long[] due = {(byte) 0xba, (short) 0xba78, 0xba78, 0xba7816bf, 0xba7816bf8f01cfeaL};
        for (int width = 0; width <= 4; width++) {
            e.dueAll(due[width], "read", 0, width, 0);
        }
    }

    @Says(part = "Promise 10", words = "W(t) of the last BLOCK that was gone through for a DIGEST")
    static void promise10_plan(String title) {
        Edge e = Edge.furnished(title);
        e.dueAll(0x61626380, "plan", 0, 0);
        e.dueAll(24, "plan", 0, 15);
        e.dueAll(480, "plan", 1, 15);
        e.dueAll(8 * 96, "plan", 2, 15);
        e.dueAll(8 * 34, "plan", Edge.ROOT, 15);
    }

    @Says(part = "Promise 11", words = "Whether two DIGESTS have the same bytes: 1, 0")
    static void promise11_same(String title) {
        Edge e = Edge.furnished(title);
        e.dueAll(1, "same", 1, 1);
        e.dueAll(0, "same", 0, 1);
        e.dueAll(0, "same", 1, 2);
    }

    @Says(part = "Promise 12", words = "K(t)")
    static void promise12_table(String title) {
        Edge e = Edge.furnished(title);
        e.dueAll(0x428a2f98, "table", 0);
        for (int t = 0; t < 64; t++) {
            e.due(Rules.K[t], "table", t);
        }
    }

    @Says(part = "Promise 13", words = "THE TAPE, which is empty then, is a LEAF more: how many")
    static void promise13_leaf(String title) {
        for (int tree = 0; tree < TREES; tree++) {
            Edge e = Edge.furnished(title + ", tree " + tree);
            e.dueAll(leaves(tree) + 1, "leaf", tree, 6);
            e.dueAll(leaves(tree) + 2, "leaf", tree, 0);
        }
    }

    @Says(part = "Promise 14", words = "A LEAF becomes of another kind, and THE TAPE, which is empty then: the kind before")
    static void promise14_change(String title) {
        for (int tree = 1; tree < TREES; tree += 2) {
            for (int leaf = 0; leaf < leaves(tree); leaf++) {
                Edge e = Edge.furnished(title + ", leaf " + leaf + " of tree " + tree);
                e.dueAll(kind(tree, leaf), "change", tree, leaf, 5);
                e.dueAll(5, "change", tree, leaf, 0);
            }
        }
    }

    @Says(part = "Promise 15", words = "THE ROOT as a DIGEST (of SORT 0): its number")
    static void promise15_root(String title) {
        for (int tree = 0; tree < TREES; tree++) {
            Edge e = Edge.furnished(title + ", tree " + tree);
            e.dueAll(DIGESTS, "root", tree);
            e.due(0, "told", DIGESTS, 0);
        }
    }

    @Says(part = "Promise 16", words = "A TREE has no LEAVES: how many it had")
    static void promise16_drop(String title) {
        for (int tree = 0; tree < TREES; tree++) {
            Edge e = Edge.furnished(title + ", tree " + tree);
            e.dueAll(leaves(tree), "drop", tree);
            e.dueAll(0, "drop", tree);
            e.dueAll(1, "leaf", tree, 2);
        }
    }

    @Says(part = "Promise 17", words = "THE PROOF becomes that of a LEAF: how many are in it")
    static void promise17_prove(String title) {
        int[] due = {3, 3, 3, 3, 1};
        for (int leaf = 0; leaf < due.length; leaf++) {
            Edge.furnished(title + ", leaf " + leaf).dueAll(due[leaf], "prove", 1, leaf);
        }
        Edge.furnished(title + ", one leaf alone").dueAll(0, "prove", 3, 0);
        // What the proof was has no part in what it becomes.
        Edge e = Edge.furnished(title + ", an altered one");
        e.call("alter", 0, 0, 255);
        e.call("alter", 2, 31, 1);
        e.dueAll(3, "prove", 1, Edge.ROOT_LEAF);
        e.due(1, "check", Edge.ROOT, Edge.ROOT_LEAVES, Edge.ROOT_LEAF, Edge.ROOT_LEAF);
    }

    @Says(part = "Promise 17", words = "THE PROOF becomes that of a LEAF")
    static void promise17_as_the_LEAF_stood_then(String title) {
        Call[] later = {new Call("leaf", 1, 0), new Call("change", 1, 3, 0), new Call("change", 1, 2, 0), new Call("drop", 1)};
        for (Call call : later) {
            Edge e = Edge.furnished(title + ", then " + call);
            e.call(call.name(), call.args());
            e.call("find");
            e.feedLeaf(Edge.ROOT_LEAF);
            e.due(1, "check", Edge.ROOT, Edge.ROOT_LEAVES, Edge.ROOT_LEAF, Edge.ROOT_LEAF);
        }
    }

    @Says(part = "Promise 18", words = "Byte i of what is k-th in THE PROOF is xored with a mask (0 .. 255): what it is then, 0 .. 255")
    static void promise18_alter(String title) {
        for (int k = 0; k <= 2; k++) {
            for (int i = 0; i < 32; i += 31) {
                Edge e = Edge.furnished(title + ", byte " + i + " of the one at " + k);
                int was = Integer.parseInt(e.call("alter", k, i, 0));
                e.dueAll(was ^ 0xa5, "alter", k, i, 0xa5);
                e.dueAll(was ^ 0xa5 ^ 0x3c, "alter", k, i, 0x3c);
                e.dueAll(was ^ 0xa5 ^ 0x3c, "alter", k, i, 0);
            }
        }
    }

    @Says(part = "Promise 19", words = "Whether THE TAPE, which stays, of a kind, as LEAF i of n, with THE PROOF comes to the bytes "
        + "of a DIGEST as THE ROOT: 1, 0")
    static void promise19_check(String title) {
        Edge e = Edge.furnished(title);
        e.dueAll(1, "check", Edge.ROOT, Edge.ROOT_LEAVES, Edge.ROOT_LEAF, Edge.ROOT_LEAF);
        e.dueAll(0, "check", Edge.ROOT, Edge.ROOT_LEAVES, Edge.ROOT_LEAF, Edge.ROOT_LEAF + 1);
        e.dueAll(0, "check", Edge.ROOT, Edge.ROOT_LEAVES + 1, Edge.ROOT_LEAF, Edge.ROOT_LEAF);
        e.dueAll(0, "check", Edge.ROOT, Edge.ROOT_LEAVES, Edge.ROOT_LEAF + 1, Edge.ROOT_LEAF);
        e.dueAll(0, "check", 0, Edge.ROOT_LEAVES, Edge.ROOT_LEAF, Edge.ROOT_LEAF);
        e.dueAll(0, "check", 1, 1, 0, 0);
    }

    @Says(part = "Promise 20", words = "THE TAPE, which is empty then, is kept: its number (that which it had, if it was there)")
    static void promise20_keep(String title) {
        Edge e = Edge.furnished(title);
        e.dueAll(ROWS, "keep");
        e.dueAll(0, "keep");
        e.feedLeaf(Edge.ROOT_LEAF);
        e.dueAll(ROWS, "keep");
        e.fillTape(40);
        e.dueAll(ROWS + 1, "keep");
    }

    @Says(part = "Promise 21", words = "The number of THE TAPE, which is empty then; NONE")
    static void promise21_find(String title) {
        Edge e = Edge.furnished(title);
        e.dueAll(Edge.NONE, "find");
        e.dueAll(0, "find");
        e.due(2, "feed", 2, Edge.meeting(Edge.EMPTY_SPOT, 3)[1]);
        e.dueAll(2, "find");
    }

    @Says(part = "Promise 22", words = "Byte i of a ROW, with sign")
    static void promise22_row(String title) {
        Edge e = Edge.furnished(title);
        e.due(4, "feed", 2, 0xff80);
        e.due(ROWS, "keep");
        e.dueAll(0x50, "row", ROWS, 0);
        e.dueAll(Edge.ROOT_LEAF, "row", ROWS, 1);
        e.dueAll(-1, "row", ROWS, 2);
        e.dueAll(-128, "row", ROWS, 3);
    }

    @Says(part = "Promise 23", words = "How many: 0 bytes on THE TAPE, 1 DIGESTS, 2 ROWS, 3 pairs of ROWS that have the same SPOT, "
        + "4 ROWS that the latest keep() or find() compared, 5 how often K was made in this program, whatever is made of it (1)")
    static void promise23_about(String title) {
        int[] due = {TAPE, DIGESTS, ROWS, 6, 4, 1};
        Edge e = Edge.furnished(title);
        for (int what = 0; what < due.length; what++) {
            e.dueAll(due[what], "about", what);
        }
    }

    @Says(part = "Promise 23", words = "4 ROWS that the latest keep() or find() compared")
    static void promise23_the_latest_keep_or_find(String title) {
        Edge e = Edge.furnished(title);
        // Whatever else is called in between, it stays what it was.
        e.due(3, "feed", 1, 7);
        e.due(DIGESTS, "digest", 0);
        e.due(0, "key");
        e.due(1, "open", 3, 0);
        e.due(0, "more", 3);
        e.due(DIGESTS + 1, "end", 3);
        e.due(6, "leaf", 1, 0);
        e.due(0, "change", 1, 5, 1);
        e.due(DIGESTS + 2, "root", 1);
        e.due(2, "prove", 1, 5);
        e.due(6, "drop", 1);
        e.due(4, "about", 4);
        e.due(0, "keep");
        e.due(1, "about", 4);
        e.due(0, "find");
        e.due(1, "about", 4);
    }

    @Says(part = "Promise 24", words = "All is as at the beginning: how many DIGESTS there were")
    static void promise24_clear(String title) {
        Edge e = Edge.furnished(title);
        for (int stream = 0; stream < STREAMS - 1; stream++) {
            e.due(DIGESTS + stream, "end", stream);
            e.due(1, "open", stream, 2 - stream);
        }
        e.dueClear(DIGESTS + STREAMS - 1);
        // As often as one likes.
        e.dueClear(0);
        e.due(0, "digest", 1);
        e.dueClear(1);
    }

    private ChangeTest() { }
}
