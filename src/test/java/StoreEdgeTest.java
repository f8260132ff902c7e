/** The boundary cases of promises 20 to 24. */
final class StoreEdgeTest {
    private static final long NONE = Edge.NONE, UNKNOWN = Edge.UNKNOWN, OUTSIDE = Edge.OUTSIDE, FULL = Edge.FULL,
        STATE = Edge.STATE;
    private static final String BOUNDS = Edge.BOUNDS, NULL = Edge.NULL;

    public static void main(String[] args) {
        Sentences.run(StoreEdgeTest.class);
    }

    @Says(part = "Promise 20", words = "THE TAPE, which is empty then, is kept: its number")
    static void promise20_THE_TAPE_is_kept(String title) {
        int[] sizes = {0, 1, 39, 40};
        Edge e = new Edge(title);
        for (int i = 0; i < sizes.length; i++) {
            e.feedMany(sizes[i], 3);
            e.due(i, "keep");
            e.due(0, "about", 0);
            e.due(i + 1, "about", 2);
            for (int k = 0; k < sizes[i]; k++) {
                e.due(Pair.bytes(sizes[i], 3)[k], "row", i, k);
            }
            e.due(BOUNDS, "row", i, sizes[i]);
        }
    }

    @Says(part = "Promise 20", words = "(that which it had, if it was there)")
    static void promise20_that_which_it_had(String title) {
        Edge e = Edge.furnished(title);
        e.fillStore();
        int[] meeting = Edge.meeting(Edge.EMPTY_SPOT, 3);
        e.due(0, "keep");
        for (int i = 0; i < 3; i++) {
            e.due(2, "feed", 2, meeting[i]);
            e.due(i + 1, "keep");
            e.due(0, "about", 0);
            e.due(i + 2, "about", 4);
        }
        e.due(3, "feed", 3, 0x700000 + 39);
        e.due(39, "keep");
        e.due(0, "about", 0);
        e.due(40, "about", 2);
    }

    @Says(part = "Promise 20", words = "OUTSIDE: more than 40 bytes")
    static void promise20_OUTSIDE_more_than_40_bytes(String title) {
        Edge e = Edge.furnished(title);
        e.fillTape(41);
        e.due(OUTSIDE, "keep");
        e.due(4, "about", 4);
        e.fillTape(200);
        e.due(OUTSIDE, "keep");
        e.due(200, "about", 0);
        e.due(5, "about", 2);
        e.due(200, "key");
        e.fillTape(40);
        e.due(5, "keep");
    }

    @Says(part = "Promise 20", words = "FULL: it was not there, and 40 are")
    static void promise20_FULL(String title) {
        Edge e = Edge.furnished(title);
        e.fillStore();
        for (int size : new int[] {1, 2, 39, 40}) {
            e.fillTape(size);
            e.due(FULL, "keep");
            e.due(size, "about", 0);
            e.due(40, "about", 2);
            e.due(4, "about", 4);
        }
        e.due(NONE, "find");
        oneSpot(title);
    }

    /** A refused keep() has looked at all forty rows, but changes nothing. */
    private static void oneSpot(String title) {
        Edge e = new Edge(title + ", all of one spot");
        int[] meeting = Edge.meeting(3, 41);
        for (int i = 0; i < 40; i++) {
            e.due(2, "feed", 2, meeting[i]);
            e.due(i, "keep");
        }
        e.due(2, "feed", 2, meeting[6]);
        e.due(6, "find");
        e.due(7, "about", 4);
        e.due(2, "feed", 2, meeting[40]);
        e.due(FULL, "keep");
        e.due(7, "about", 4);
        e.due(2, "about", 0);
    }

    @Says(part = "Promise 20", words = "OUTSIDE: more than 40 bytes; FULL: it was not there, and 40 are")
    static void promise20_OUTSIDE_ahead_of_FULL(String title) {
        Edge e = Edge.furnished(title);
        e.fillStore();
        e.fillTape(41);
        e.due(OUTSIDE, "keep");
        e.fillTape(200);
        e.due(OUTSIDE, "keep");
        e.due(40, "about", 2);
    }

    @Says(part = "Promise 21", words = "The number of THE TAPE, which is empty then; NONE")
    static void promise21_the_number_or_NONE(String title) {
        Edge empty = new Edge(title + ", an empty store");
        empty.due(NONE, "find");
        empty.due(1, "feed", 1, 0);
        empty.due(NONE, "find");
        empty.due(0, "about", 0);
        empty.due(0, "about", 2);
        Edge e = Edge.furnished(title);
        e.due(NONE, "find");
        e.due(0, "about", 0);
        e.due(0, "find");
        e.due(1, "about", 4);
        e.fillTape(40);
        e.due(NONE, "find");
        e.due(0, "about", 0);
        e.due(5, "about", 2);
        e.fillTape(40);
        e.due(5, "keep");
        e.fillTape(40);
        e.due(5, "find");
        e.fillTape(39);
        e.due(NONE, "find");
        e.fillStore();
        e.due(3, "feed", 3, 0x700000 + 39);
        e.due(39, "find");
        e.due(3, "feed", 3, 0x700000 + 40);
        e.due(NONE, "find");
        e.due(0, "about", 0);
    }

    @Says(part = "Promise 21", words = "OUTSIDE: more than 40 bytes")
    static void promise21_OUTSIDE_more_than_40_bytes(String title) {
        Edge e = Edge.furnished(title);
        e.fillTape(41);
        e.due(OUTSIDE, "find");
        e.due(4, "about", 4);
        e.fillTape(200);
        e.due(OUTSIDE, "find");
        e.due(200, "about", 0);
        e.due(200, "key");
        e.fillTape(40);
        e.due(NONE, "find");
    }

    @Says(part = "Promise 22", words = "Byte i of a ROW, with sign")
    static void promise22_with_sign(String title) {
        Edge e = new Edge(title);
        e.due(8, "feed", 8, 0x807f00ff01fe8101L);
        e.due(0, "keep");
        int[] due = {-128, 127, 0, -1, 1, -2, -127, 1};
        for (int i = 0; i < due.length; i++) {
            e.due(due[i], "row", 0, i);
        }
        e.feedMany(40, 3);
        e.due(1, "keep");
        for (int i = 0; i < 40; i++) {
            e.due(Pair.bytes(40, 3)[i], "row", 1, i);
        }
    }

    @Says(part = "Promise 22", words = "ArrayIndexOutOfBoundsException: no such byte")
    static void promise22_no_such_byte(String title) {
        Edge e = Edge.furnished(title);
        e.fillTape(40);
        e.due(5, "keep");
        e.findFourth();
        int[] sizes = {0, 2, 2, 2, 2, 40};
        for (int row = 0; row < sizes.length; row++) {
            for (int i : Edge.wrong(0, sizes[row] - 1)) {
                e.due(BOUNDS, "row", row, i);
            }
            e.due(BOUNDS, "row", row, sizes[row]);
            e.due(BOUNDS, "row", row, 40);
        }
        e.call("row", 1, 0);
        e.call("row", 1, 1);
        e.call("row", 5, 39);
    }

    @Says(part = "Promise 22", words = "NullPointerException: no such ROW (of 0 .. 39; ahead; others: ArrayIndexOutOfBoundsException)")
    static void promise22_no_such_ROW(String title) {
        Edge e = Edge.furnished(title);
        for (int row = 5; row <= 39; row += 17) {
            e.due(NULL, "row", row, 0);
            for (int i : Edge.wrong(0, 39)) {
                e.due(NULL, "row", row, i);
            }
        }
        for (int row : Edge.wrong(0, 39)) {
            e.due(BOUNDS, "row", row, 0);
            e.due(BOUNDS, "row", row, -1);
            e.due(BOUNDS, "row", row, 40);
        }
        e.call("row", 4, 0);
        e.fillStore();
        e.call("row", 39, 0);
        e.due(BOUNDS, "row", 40, 0);
        e.due(BOUNDS, "row", -1, 0);
        e.due(4, "clear");
        e.due(NULL, "row", 0, 0);
        e.due(NULL, "row", 39, 0);
        e.due(BOUNDS, "row", 40, 0);
    }

    @Says(part = "Promise 23", words = "0 bytes on THE TAPE")
    static void promise23_bytes_on_THE_TAPE(String title) {
        Edge e = new Edge(title);
        e.due(0, "about", 0);
        e.due(1, "feed", 1, 0);
        e.due(1, "about", 0);
        e.fillTape(200);
        e.due(FULL, "feed", 1, 0);
        e.due(200, "about", 0);
        e.due(200, "key");
        e.due(0, "about", 0);
    }

    @Says(part = "Promise 23", words = "1 DIGESTS")
    static void promise23_DIGESTS(String title) {
        Edge e = new Edge(title);
        for (int d = 0; d < 60; d++) {
            e.due(d, "about", 1);
            e.due(d, "digest", d % 3);
        }
        e.due(60, "about", 1);
        e.due(FULL, "digest", 0);
        e.due(60, "about", 1);
    }

    @Says(part = "Promise 23", words = "2 ROWS")
    static void promise23_ROWS(String title) {
        Edge e = new Edge(title);
        for (int row = 0; row < 40; row++) {
            e.due(row, "about", 2);
            e.due(1, "feed", 1, row);
            e.due(row, "keep");
        }
        e.due(1, "feed", 1, 0);
        e.due(0, "keep");
        e.due(40, "about", 2);
        e.due(1, "feed", 1, 40);
        e.due(FULL, "keep");
        e.due(40, "about", 2);
    }

    @Says(part = "Promise 23", words = "3 pairs of ROWS that have the same SPOT")
    static void promise23_pairs_of_ROWS(String title) {
        Edge e = new Edge(title);
        e.due(0, "about", 3);
        int[] meeting = Edge.meeting(15, 39);
        for (int i = 0; i < 39; i++) {
            e.due(2, "feed", 2, meeting[i]);
            e.due(i, "keep");
            e.due(i * (i + 1) / 2, "about", 3);
        }
        e.due(2, "feed", 2, Edge.meeting(14, 1)[0]);
        e.due(39, "keep");
        e.due(39 * 38 / 2, "about", 3);
        Edge all = new Edge(title + ", all forty");
        for (int i = 0; i < 39; i++) {
            all.due(2, "feed", 2, meeting[i]);
            all.due(i, "keep");
        }
        all.due(2, "feed", 2, Edge.meeting(15, 40)[39]);
        all.due(39, "keep");
        all.due(780, "about", 3);
    }

    @Says(part = "Promise 23", words = "4 ROWS that the latest keep() or find() compared")
    static void promise23_ROWS_compared(String title) {
        Edge e = new Edge(title);
        e.due(0, "about", 4);
        int[] meeting = Edge.meeting(0, 40);
        for (int i = 0; i < 39; i++) {
            e.due(2, "feed", 2, meeting[i]);
            e.due(i, "keep");
            e.due(i, "about", 4);
        }
        e.due(2, "feed", 2, meeting[39]);
        e.due(NONE, "find");
        e.due(39, "about", 4);
        e.due(2, "feed", 2, meeting[0]);
        e.due(0, "find");
        e.due(1, "about", 4);
        e.due(2, "feed", 2, meeting[38]);
        e.due(38, "keep");
        e.due(39, "about", 4);
        e.due(2, "feed", 2, Edge.meeting(1, 1)[0]);
        e.due(NONE, "find");
        e.due(0, "about", 4);
        e.due(2, "feed", 2, meeting[39]);
        e.due(39, "keep");
        e.due(39, "about", 4);
        e.due(2, "feed", 2, meeting[39]);
        e.due(39, "find");
        e.due(40, "about", 4);
    }

    @Says(part = "Promise 23", words = "5 how often K was made in this program, whatever is made of it (1)")
    static void promise23_how_often_K_was_made(String title) {
        Edge e = new Edge(title);
        e.due(1, "about", 5);
        Edge other = Edge.furnished(title + ", another object");
        other.due(1, "about", 5);
        e.due(0, "digest", 2);
        e.due(0xc67178f2, "table", 63);
        e.due(1, "clear");
        e.due(1, "about", 5);
        other.due(4, "clear");
        other.due(1, "about", 5);
    }

    @Says(part = "Promise 23", words = "OUTSIDE")
    static void promise23_OUTSIDE(String title) {
        Edge e = Edge.furnished(title);
        for (int what : Edge.wrong(0, 5)) {
            e.due(OUTSIDE, "about", what);
        }
    }

    @Says(part = "Promise 24", words = "how many DIGESTS there were")
    static void promise24_how_many_DIGESTS_there_were(String title) {
        Edge e = new Edge(title);
        e.dueClear(0);
        e.due(0, "digest", 1);
        e.dueClear(1);
        e.dueClear(0);
        e.fillDigests(60);
        e.due(FULL, "root", 0);
        e.dueClear(60);
        e.fillDigests(60);
        e.due(FULL, "digest", 0);
        e.dueClear(60);
        e.dueClear(0);
    }

    @Says(part = "Promise 24", words = "All is as at the beginning")
    static void promise24_all(String title) {
        Edge.furnished(title + ", something of each kind").dueClear(4);
        Edge full = Edge.furnished(title + ", much is full");
        full.fillTree();
        full.fillStore();
        full.fillDigests(60);
        full.fillTape(200);
        full.dueClear(60);
    }

    @Says(part = "Promise 24", words = "All is as at the beginning")
    static void promise24_THE_TAPE(String title) {
        for (int size : new int[] {1, 200}) {
            Edge e = new Edge(title + ", a tape of " + size + " bytes");
            e.fillTape(size);
            e.dueClear(0);
            e.due(0, "about", 0);
            e.fillTape(200);
            e.due(0, "digest", 0);
            e.lookAt(0);
        }
    }

    @Says(part = "Promise 24", words = "All is as at the beginning")
    static void promise24_KEY(String title) {
        for (int size : new int[] {1, 64, 65, 200}) {
            Edge e = new Edge(title + ", a key of " + size + " bytes");
            e.fillTape(size);
            e.due(size, "key");
            e.dueClear(0);
            e.due(0, "digest", 2);
            e.due(0xb613679a, "read", 0, 3, 0);
            e.due(4, "told", 0, 2);
        }
    }

    @Says(part = "Promise 24", words = "All is as at the beginning")
    static void promise24_DIGESTS(String title) {
        for (int sort = 0; sort <= 2; sort++) {
            Edge e = new Edge(title + ", a digest of sort " + sort);
            e.due(0, "digest", sort);
            e.dueClear(1);
            e.due(UNKNOWN, "told", 0, 0);
            e.due(UNKNOWN, "read", 0, 0, 0);
            e.due(UNKNOWN, "plan", 0, 0);
            e.due(UNKNOWN, "same", 0, 0);
            // The next one may be of another sort.
            e.fillTape(9);
            e.due(0, "digest", (sort + 1) % 3);
            e.lookAt(0);
        }
    }

    @Says(part = "Promise 24", words = "All is as at the beginning")
    static void promise24_STREAMS(String title) {
        for (int stream = 0; stream <= 3; stream++) {
            Edge e = new Edge(title + ", stream " + stream);
            e.due(1, "open", stream, 2);
            e.fillTape(70);
            e.due(70, "more", stream);
            e.dueClear(0);
            e.due(STATE, "more", stream);
            e.due(STATE, "end", stream);
            e.due(1, "open", stream, 0);
            e.due(0, "more", stream);
            e.due(0, "end", stream);
            e.lookAt(0);
        }
    }

    @Says(part = "Promise 24", words = "All is as at the beginning")
    static void promise24_LEAVES(String title) {
        for (int tree = 0; tree <= 3; tree++) {
            Edge e = new Edge(title + ", tree " + tree);
            for (int i = 1; i <= 12; i++) {
                e.due(i, "leaf", tree, 7);
            }
            e.dueClear(0);
            e.due(UNKNOWN, "change", tree, 0, 0);
            e.due(UNKNOWN, "prove", tree, 0);
            e.due(0, "root", tree);
            e.lookAt(0);
            e.due(1, "leaf", tree, 0);
        }
    }

    @Says(part = "Promise 24", words = "All is as at the beginning")
    static void promise24_THE_PROOF(String title) {
        Edge e = new Edge(title + ", the proof");
        e.due(1, "leaf", 0, 0);
        e.due(2, "leaf", 0, 0);
        e.due(1, "prove", 0, 0);
        e.dueClear(0);
        e.due(UNKNOWN, "alter", 0, 0, 0);
        e.due(1, "leaf", 0, 0);
        e.due(2, "leaf", 0, 0);
        e.due(0, "root", 0);
        e.due(0, "check", 0, 2, 0, 0);
        // A tree of one leaf, where nothing has been proved: it answers what a new object does.
        DigestTrees fresh = new DigestTrees();
        Report.expect(fresh.leaf(1, 0) == 1 && fresh.root(1) == 0, title + ": a leaf and a root of a new object");
        e.due(1, "leaf", 1, 0);
        e.due(1, "root", 1);
        e.due(fresh.check(0, 1, 0, 0), "check", 1, 1, 0, 0);
    }

    @Says(part = "Promise 24", words = "All is as at the beginning")
    static void promise24_ROWS(String title) {
        Edge e = new Edge(title + ", rows");
        for (int row = 0; row < 40; row++) {
            e.fillTape(row + 1);
            e.due(row, "keep");
        }
        e.dueClear(0);
        e.due(0, "about", 2);
        e.due(0, "about", 3);
        e.due(NULL, "row", 0, 0);
        e.fillTape(1);
        e.due(NONE, "find");
        e.due(0, "about", 4);
        e.due(0, "keep");
        e.due(BOUNDS, "row", 0, 0);
    }

    @Says(part = "Promise 24", words = "All is as at the beginning")
    static void promise24_what_was_compared(String title) {
        Edge e = new Edge(title + ", how many rows were compared");
        e.due(0, "keep");
        e.due(0, "find");
        e.due(1, "about", 4);
        e.dueClear(0);
        e.due(0, "about", 4);
        e.due(1, "about", 5);
    }

    private StoreEdgeTest() { }
}
