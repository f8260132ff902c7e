import java.nio.ByteBuffer;
import java.util.Arrays;

/** The boundary cases of promises 1 to 12. */
final class DigestEdgeTest {
    private static final long UNKNOWN = Edge.UNKNOWN, OUTSIDE = Edge.OUTSIDE, FULL = Edge.FULL, STATE = Edge.STATE;
    private static final String BOUNDS = Edge.BOUNDS, NULL = Edge.NULL;
    private static final int[] WIDTH_BYTES = {1, 2, 2, 4, 8};

    // How the digests of nothing begin: WIDE, NARROW, and KEYED by an empty key.
    private static final int[] OF_NOTHING = {0xe3b0c442, 0xd14a028c, 0xb613679a};

    public static void main(String[] args) {
        Sentences.run(DigestEdgeTest.class);
    }

    @Says(part = "Promise 1", words = "An empty TAPE")
    static void promise1_an_empty_TAPE(String title) {
        Edge e = new Edge(title);
        e.due(0, "about", 0);
        e.due(0, "digest", 0);
        e.due(OF_NOTHING[0], "read", 0, 3, 0);
    }

    @Says(part = "Promise 1", words = "an empty KEY")
    static void promise1_an_empty_KEY(String title) {
        Edge e = new Edge(title);
        e.due(0, "digest", 2);
        e.due(OF_NOTHING[2], "read", 0, 3, 0);
        e.due(4, "told", 0, 2);
    }

    @Says(part = "Promise 1", words = "nothing else is there")
    static void promise1_nothing_else_is_there(String title) {
        Edge e = new Edge(title);
        for (int what = 1; what <= 4; what++) {
            e.due(0, "about", what);
        }
        e.due(UNKNOWN, "told", 0, 0);
        e.due(UNKNOWN, "read", 0, 0, 0);
        e.due(UNKNOWN, "plan", 0, 0);
        e.due(UNKNOWN, "same", 0, 0);
        e.due(UNKNOWN, "alter", 0, 0, 0);
        e.due(UNKNOWN, "check", 0, 1, 0, 0);
        for (int i = 0; i <= 3; i++) {
            e.due(STATE, "more", i);
            e.due(STATE, "end", i);
            e.due(UNKNOWN, "change", i, 0, 0);
            e.due(UNKNOWN, "prove", i, 0);
            e.due(0, "drop", i);
        }
        for (int row = 0; row <= 39; row++) {
            e.due(NULL, "row", row, 0);
        }
        e.due(Edge.NONE, "find");
        e.due(0, "clear");
    }

    @Says(part = "Promise 2", words = "The n lowest bytes of w, the highest of them first")
    static void promise2_the_n_lowest_bytes(String title) {
        long[] all = {Long.MIN_VALUE, Long.MAX_VALUE, -1, 0, 1, 0x8182838485868788L, 0x0102030405060708L, 0xff00ff00ff00ff00L};
        for (long w : all) {
            Edge e = new Edge(title + ", w is " + w);
            for (int n = 1; n <= 8; n++) {
                e.due(n, "feed", n, w);
                e.due(n - 1, "keep");
                for (int i = 0; i < n; i++) {
                    e.due((byte) (w >> 8 * (n - 1 - i)), "row", n - 1, i);
                }
                e.due(BOUNDS, "row", n - 1, n);
            }
        }
        Edge e = new Edge(title + ", the smallest long and the largest");
        e.due(8, "feed", 8, Long.MIN_VALUE);
        e.due(16, "feed", 8, Long.MAX_VALUE);
        e.due(17, "feed", 1, Long.MIN_VALUE);
        e.due(18, "feed", 1, Long.MAX_VALUE);
        e.due(0, "keep");
        int[] due = {-128, 0, 0, 0, 0, 0, 0, 0, 127, -1, -1, -1, -1, -1, -1, -1, 0, -1};
        for (int i = 0; i < due.length; i++) {
            e.due(due[i], "row", 0, i);
        }
    }

    @Says(part = "Promise 2", words = "come behind THE TAPE: how many it has")
    static void promise2_come_behind_THE_TAPE(String title) {
        for (int n = 1; n <= 8; n++) {
            Edge e = new Edge(title + ", " + n + " at a time");
            for (int has = n; has <= 200; has += n) {
                e.due(has, "feed", n, 0x0102030405060708L * has);
            }
            e.due(200 / n * n, "about", 0);
            e.due(0, "digest", 0);
            e.lookAt(0);
        }
    }

    @Says(part = "Promise 2", words = "OUTSIDE: n is not 1 .. 8")
    static void promise2_OUTSIDE_n_is_not_1_to_8(String title) {
        Edge e = Edge.furnished(title);
        for (int n : Edge.wrong(1, 8)) {
            e.due(OUTSIDE, "feed", n, Long.MIN_VALUE);
            e.due(OUTSIDE, "feed", n, Long.MAX_VALUE);
        }
        e.due(OUTSIDE, "feed", 0, 0);
        e.due(OUTSIDE, "feed", 9, 0);
        e.due(3, "feed", 1, Long.MAX_VALUE);
        e.due(11, "feed", 8, Long.MIN_VALUE);
    }

    @Says(part = "Promise 2", words = "FULL")
    static void promise2_FULL(String title) {
        for (int n = 1; n <= 8; n++) {
            Edge e = new Edge(title + ", " + n + " bytes");
            e.fillTape(201 - n);
            e.due(FULL, "feed", n, 0x55);
            e.due(201 - n, "about", 0);
            Edge fits = new Edge(title + ", " + n + " bytes that fit");
            fits.fillTape(200 - n);
            fits.due(200, "feed", n, 0x55);
            fits.due(FULL, "feed", 1, Long.MIN_VALUE);
            fits.due(FULL, "feed", n, Long.MAX_VALUE);
            fits.due(0, "digest", 0);
            fits.lookAt(0);
        }
    }

    @Says(part = "Promise 2", words = "OUTSIDE: n is not 1 .. 8; FULL")
    static void promise2_OUTSIDE_ahead_of_FULL(String title) {
        Edge e = new Edge(title);
        e.fillTape(200);
        for (int n : Edge.wrong(1, 8)) {
            e.due(OUTSIDE, "feed", n, 1);
        }
        e.due(FULL, "feed", 8, 1);
    }

    @Says(part = "Promise 3", words = "KEY becomes THE TAPE, which is empty then: how many bytes")
    static void promise3_KEY_becomes_THE_TAPE(String title) {
        // Each key behind a longer and a shorter one: nothing of the one before is left.
        int[] sizes = {200, 0, 64, 63, 65, 1, 0, 0, 199};
        Edge e = new Edge(title);
        for (int i = 0; i < sizes.length; i++) {
            e.feedMany(sizes[i], i + 1);
            e.due(sizes[i], "key");
            e.due(0, "about", 0);
            e.due(2 * i, "digest", 2);
            e.lookAt(2 * i);
            e.due(2 * i + 1, "digest", 0);
            e.due(OF_NOTHING[0], "read", 2 * i + 1, 3, 0);
        }
    }

    @Says(part = "Promise 4", words = "A DIGEST of a SORT of THE TAPE, which is empty then: its number")
    static void promise4_a_DIGEST_of_THE_TAPE(String title) {
        for (int sort = 0; sort <= 2; sort++) {
            Edge e = new Edge(title + ", sort " + sort);
            e.due(0, "digest", sort);
            e.due(OF_NOTHING[sort], "read", 0, 3, 0);
            e.fillTape(200);
            e.due(1, "digest", sort);
            e.due(0, "about", 0);
            e.lookAt(1);
            e.due(2, "digest", sort);
            e.due(1, "same", 0, 2);
        }
    }

    @Says(part = "Promise 4", words = "OUTSIDE")
    static void promise4_OUTSIDE(String title) {
        Edge e = Edge.furnished(title);
        for (int sort : Edge.wrong(0, 2)) {
            e.due(OUTSIDE, "digest", sort);
        }
        e.due(4, "digest", 2);
        e.due(5, "digest", 0);
    }

    @Says(part = "Promise 4", words = "FULL")
    static void promise4_FULL(String title) {
        for (int sort = 0; sort <= 2; sort++) {
            Edge e = Edge.furnished(title + ", sort " + sort);
            e.fillDigests(59);
            e.due(59, "digest", sort);
            e.lookAt(59);
            e.due(FULL, "digest", sort);
            e.feedLeaf(0);
            e.due(FULL, "digest", sort);
            e.due(2, "about", 0);
            e.due(60, "about", 1);
        }
    }

    @Says(part = "Promise 4", words = "OUTSIDE, FULL")
    static void promise4_OUTSIDE_ahead_of_FULL(String title) {
        Edge e = Edge.furnished(title);
        e.fillDigests(60);
        for (int sort : Edge.wrong(0, 2)) {
            e.due(OUTSIDE, "digest", sort);
        }
        e.due(FULL, "digest", 0);
    }

    @Says(part = "Promise 5", words = "A STREAM is opened: 1")
    static void promise5_a_STREAM_is_opened(String title) {
        for (int stream = 0; stream <= 3; stream++) {
            Edge e = new Edge(title + ", stream " + stream);
            for (int sort = 0; sort <= 2; sort++) {
                e.due(2, "feed", 2, 7);
                e.due(1, "open", stream, sort);
                e.due(2, "about", 0);
                e.due(2, "more", stream);
                e.due(sort, "end", stream);
                e.due(sort, "told", sort, 0);
                e.lookAt(sort);
            }
        }
    }

    @Says(part = "Promise 5", words = "OUTSIDE (stream, sort)")
    static void promise5_OUTSIDE_stream_sort(String title) {
        Edge e = Edge.furnished(title);
        for (int x : Edge.wrong(0, 3)) {
            e.due(OUTSIDE, "open", x, 0);
            e.due(OUTSIDE, "open", x, 2);
            e.due(OUTSIDE, "open", x, 3);
        }
        for (int x : Edge.wrong(0, 2)) {
            e.due(OUTSIDE, "open", 3, x);
        }
        e.due(1, "open", 3, 2);
    }

    @Says(part = "Promise 5", words = "STATE: it is open")
    static void promise5_STATE_it_is_open(String title) {
        Edge e = Edge.furnished(title);
        for (int stream = 0; stream <= 2; stream++) {
            for (int sort = 0; sort <= 2; sort++) {
                e.due(STATE, "open", stream, sort);
            }
        }
        e.due(4, "end", 2);
        e.due(1, "open", 2, 0);
        e.due(STATE, "open", 2, 0);
        e.due(1, "open", 3, 1);
        e.due(STATE, "open", 3, 1);
    }

    @Says(part = "Promise 5", words = "OUTSIDE (stream, sort); STATE: it is open")
    static void promise5_OUTSIDE_ahead_of_STATE(String title) {
        Edge e = Edge.furnished(title);
        for (int stream = 0; stream <= 2; stream++) {
            for (int sort : Edge.wrong(0, 2)) {
                e.due(OUTSIDE, "open", stream, sort);
            }
        }
        e.due(STATE, "open", 0, 0);
    }

    @Says(part = "Promise 6", words = "THE TAPE, which is empty then, comes behind a STREAM: how many bytes came in all")
    static void promise6_comes_behind_a_STREAM(String title) {
        for (int sort = 0; sort <= 2; sort++) {
            Edge e = Edge.furnished(title + ", sort " + sort);
            e.due(2, "key");
            e.due(1, "open", 3, sort);
            e.due(0, "more", 3);
            e.due(1, "feed", 1, -1);
            e.due(1, "more", 3);
            e.due(0, "about", 0);
            e.due(1, "more", 3);
            e.fillTape(200);
            e.due(201, "more", 3);
            e.due(0, "about", 0);
            e.due(4, "end", 3);
            e.lookAt(4);
        }
    }

    @Says(part = "Promise 6", words = "OUTSIDE")
    static void promise6_OUTSIDE(String title) {
        Edge e = Edge.furnished(title);
        for (int stream : Edge.wrong(0, 3)) {
            e.due(OUTSIDE, "more", stream);
        }
        e.due(2, "more", 0);
        e.due(1, "open", 3, 0);
        e.due(0, "more", 3);
    }

    @Says(part = "Promise 6", words = "STATE: it is shut")
    static void promise6_STATE_it_is_shut(String title) {
        Edge e = Edge.furnished(title);
        e.due(STATE, "more", 3);
        e.due(2, "about", 0);
        e.due(1, "open", 3, 0);
        e.due(2, "more", 3);
        e.due(4, "end", 3);
        e.due(STATE, "more", 3);
        e.feedLeaf(1);
        e.due(STATE, "more", 3);
        e.due(2, "about", 0);
    }

    @Says(part = "Promise 6", words = "FULL: more than 2000")
    static void promise6_FULL_more_than_2000(String title) {
        for (int sort = 0; sort <= 2; sort++) {
            Edge e = new Edge(title + ", sort " + sort);
            e.due(1, "open", 0, sort);
            e.due(1, "open", 3, sort);
            e.fillStream(1999);
            e.due(2, "feed", 2, 5);
            e.due(FULL, "more", 0);
            e.due(2, "about", 0);
            e.due(2, "more", 3);
            e.due(1, "feed", 1, 5);
            e.due(2000, "more", 0);
            e.due(2000, "more", 0);
            e.due(1, "feed", 1, 6);
            e.due(FULL, "more", 0);
            e.due(0, "end", 0);
            e.lookAt(0);
            e.due(1, "end", 3);
            e.lookAt(1);
        }
        Edge e = Edge.furnished(title + ", a whole tape");
        e.fillStream(1801);
        e.fillTape(200);
        e.due(FULL, "more", 0);
        e.due(200, "about", 0);
        Edge fits = Edge.furnished(title + ", a whole tape that fits");
        fits.fillStream(1800);
        fits.fillTape(200);
        fits.due(2000, "more", 0);
        fits.due(1, "feed", 1, 1);
        fits.due(FULL, "more", 0);
        fits.due(4, "end", 0);
        fits.lookAt(4);
    }

    @Says(part = "Promise 6", words = "STATE: it is shut; FULL: more than 2000")
    static void promise6_STATE_ahead_of_FULL(String title) {
        Edge e = new Edge(title);
        e.due(1, "open", 0, 0);
        e.fillStream(2000);
        e.due(0, "end", 0);
        e.due(1, "feed", 1, 1);
        e.due(STATE, "more", 0);
        // What is opened again begins anew.
        e.due(1, "open", 0, 0);
        e.due(1, "more", 0);
        e.due(1, "end", 0);
        e.lookAt(1);
    }

    @Says(part = "Promise 7", words = "A STREAM is shut: its DIGEST's number")
    static void promise7_a_STREAM_is_shut(String title) {
        Edge e = new Edge(title);
        for (int sort = 0; sort <= 2; sort++) {
            for (int stream = 0; stream <= 3; stream++) {
                int number = 4 * sort + stream;
                e.due(1, "open", stream, sort);
                e.due(3, "feed", 3, 4);
                e.due(number, "end", stream);
                e.due(3, "about", 0);
                e.due(OF_NOTHING[sort], "read", number, 3, 0);
                e.due(STATE, "end", stream);
                e.due(3, "key");
                e.due(0, "key");
            }
        }
    }

    @Says(part = "Promise 7", words = "OUTSIDE")
    static void promise7_OUTSIDE(String title) {
        Edge e = Edge.furnished(title);
        for (int stream : Edge.wrong(0, 3)) {
            e.due(OUTSIDE, "end", stream);
        }
        e.due(4, "end", 0);
    }

    @Says(part = "Promise 7", words = "STATE")
    static void promise7_STATE(String title) {
        Edge e = Edge.furnished(title);
        e.due(STATE, "end", 3);
        e.due(1, "open", 3, 1);
        e.due(4, "end", 3);
        e.due(STATE, "end", 3);
        e.due(5, "end", 2);
        e.due(STATE, "end", 2);
        e.lookAt(5);
    }

    @Says(part = "Promise 7", words = "FULL")
    static void promise7_FULL(String title) {
        Edge e = Edge.furnished(title);
        e.fillDigests(59);
        e.due(59, "end", 2);
        e.lookAt(59);
        e.due(FULL, "end", 0);
        e.due(FULL, "end", 1);
        // It stays open, with what came.
        e.due(STATE, "open", 0, 0);
        e.due(2, "more", 0);
        e.due(FULL, "end", 0);
        e.due(2, "more", 0);
    }

    @Says(part = "Promise 7", words = "OUTSIDE, STATE, FULL")
    static void promise7_the_first_of_several(String title) {
        Edge e = Edge.furnished(title);
        e.fillDigests(60);
        for (int stream : Edge.wrong(0, 3)) {
            e.due(OUTSIDE, "end", stream);
        }
        e.due(STATE, "end", 3);
        e.due(FULL, "end", 2);
    }

    @Says(part = "Promise 8", words = "its SORT (what = 0), how many bytes it has (1: 32, of SORT 1 28)")
    static void promise8_SORT_and_bytes(String title) {
        Edge e = Edge.furnished(title);
        int[] sorts = {0, 1, 2, 0};
        int[] bytes = {32, 28, 32, 32};
        for (int d = 0; d <= 3; d++) {
            e.due(sorts[d], "told", d, 0);
            e.due(bytes[d], "told", d, 1);
        }
    }

    @Says(part = "Promise 8", words = "how many BLOCKS were gone through for it in all (2), also those of KEY")
    static void promise8_BLOCKS_in_all(String title) {
        int[][] keyMessageBlocks = {{0, 0, 4}, {0, 55, 4}, {0, 56, 5}, {64, 0, 4}, {65, 0, 6}, {65, 56, 7}, {119, 0, 6},
            {120, 0, 7}, {200, 200, 11}};
        for (int[] each : keyMessageBlocks) {
            Edge e = new Edge(title + ", a key of " + each[0] + " bytes, a message of " + each[1]);
            e.feedMany(each[0], 1);
            e.due(each[0], "key");
            e.feedMany(each[1], 2);
            e.due(0, "digest", 2);
            e.due(each[2], "told", 0, 2);
            e.due(1, "open", 1, 2);
            e.feedMany(each[1], 2);
            e.due(each[1], "more", 1);
            e.due(1, "end", 1);
            e.due(each[2], "told", 1, 2);
        }
    }

    @Says(part = "Promise 8", words = "(of a ROOT for itself alone: 1)")
    static void promise8_of_a_ROOT_1(String title) {
        Edge e = new Edge(title);
        for (int n = 0; n <= 12; n++) {
            e.due(n, "root", 0);
            e.due(1, "told", n, 2);
            if (n < 12) {
                e.feedMany(40, n);
                e.due(n + 1, "leaf", 0, 7);
            }
        }
    }

    @Says(part = "Promise 8", words = "UNKNOWN")
    static void promise8_UNKNOWN(String title) {
        Edge e = Edge.furnished(title);
        for (int digest : Edge.wrong(0, 3)) {
            e.due(UNKNOWN, "told", digest, 0);
        }
        e.fillDigests(60);
        e.due(0, "told", 59, 0);
        e.due(UNKNOWN, "told", 60, 0);
    }

    @Says(part = "Promise 8", words = "OUTSIDE")
    static void promise8_OUTSIDE(String title) {
        Edge e = Edge.furnished(title);
        for (int what : Edge.wrong(0, 2)) {
            e.due(OUTSIDE, "told", 0, what);
            e.due(OUTSIDE, "told", 3, what);
        }
    }

    @Says(part = "Promise 8", words = "UNKNOWN, OUTSIDE")
    static void promise8_UNKNOWN_ahead_of_OUTSIDE(String title) {
        Edge e = Edge.furnished(title);
        for (int digest : Edge.wrong(0, 3)) {
            e.due(UNKNOWN, "told", digest, -1);
            e.due(UNKNOWN, "told", digest, 3);
        }
    }

    @Says(part = "Promise 9", words = "What stands from byte i of a DIGEST on, the highest byte first")
    static void promise9_what_stands_from_byte_i(String title) {
        for (int sort = 0; sort <= 2; sort++) {
            Edge e = new Edge(title + ", sort " + sort);
            e.due(3, "feed", 3, 0x616263);
            e.due(0, "digest", sort);
            for (int width = 0; width <= 4; width++) {
                for (int i = 0; i <= (sort == 1 ? 28 : 32) - WIDTH_BYTES[width]; i++) {
                    e.call("read", 0, width, i);
                }
            }
        }
    }

    @Says(part = "Promise 9", words = "width 0 a byte, 1 a short, 2 a char (from 0 on; the others have signs), 3 an int, 4 a long")
    static void promise9_signs(String title) {
        // ba7816bf 8f01cfea 414140de 5dae2223 b00361a3 96177a9c b410ff61 f20015ad
        Edge e = new Edge(title);
        e.due(3, "feed", 3, 0x616263);
        e.due(0, "digest", 0);
        e.due(-70, "read", 0, 0, 0);
        e.due(120, "read", 0, 0, 1);
        e.due(-1, "read", 0, 0, 26);
        e.due(0, "read", 0, 0, 29);
        e.due(0xba78 - 65536, "read", 0, 1, 0);
        e.due(0x7816, "read", 0, 1, 1);
        e.due(0x01cf, "read", 0, 1, 5);
        e.due(0xff61 - 65536, "read", 0, 1, 26);
        e.due(0xba78, "read", 0, 2, 0);
        e.due(0x7816, "read", 0, 2, 1);
        e.due(0xff61, "read", 0, 2, 26);
        e.due(0x15ad, "read", 0, 2, 30);
        e.due(0xba7816bfL - (1L << 32), "read", 0, 3, 0);
        e.due(0x7816bf8fL, "read", 0, 3, 1);
        e.due(0xf20015adL - (1L << 32), "read", 0, 3, 28);
        e.due(0xba7816bf8f01cfeaL, "read", 0, 4, 0);
        e.due(0x7816bf8f01cfea41L, "read", 0, 4, 1);
        e.due(0xb410ff61f20015adL, "read", 0, 4, 24);
    }

    @Says(part = "Promise 9", words = "UNKNOWN (digest)")
    static void promise9_UNKNOWN_digest(String title) {
        Edge e = Edge.furnished(title);
        for (int digest : Edge.wrong(0, 3)) {
            for (int width = 0; width <= 4; width++) {
                e.due(UNKNOWN, "read", digest, width, 0);
            }
        }
    }

    @Says(part = "Promise 9", words = "OUTSIDE (width), as longs")
    static void promise9_OUTSIDE_width(String title) {
        Edge e = Edge.furnished(title);
        for (int width : Edge.wrong(0, 4)) {
            e.due(OUTSIDE, "read", 0, width, 0);
            e.due(OUTSIDE, "read", 1, width, 27);
        }
        long unknown = new DigestTrees().read(0, 0, 0);
        Report.expect(unknown == -101L, title + ": UNKNOWN as a long is " + unknown);
    }

    @Says(part = "Promise 9", words = "ArrayIndexOutOfBoundsException: it is not all there")
    static void promise9_it_is_not_all_there(String title) {
        for (int digest = 0; digest <= 3; digest++) {
            Edge e = Edge.furnished(title + ", digest " + digest);
            int size = digest == 1 ? 28 : 32;
            for (int width = 0; width <= 4; width++) {
                int last = size - WIDTH_BYTES[width];
                e.call("read", digest, width, 0);
                e.call("read", digest, width, last);
                for (int i : Edge.wrong(0, last)) {
                    e.due(BOUNDS, "read", digest, width, i);
                }
                e.due(BOUNDS, "read", digest, width, size - 1 + (width == 0 ? 1 : 0));
                e.due(BOUNDS, "read", digest, width, size);
                e.due(BOUNDS, "read", digest, width, Integer.MAX_VALUE - WIDTH_BYTES[width] + 1);
            }
        }
    }

    @Says(part = "Promise 9", words = "UNKNOWN (digest), OUTSIDE (width), as longs. ArrayIndexOutOfBoundsException: it is not all there")
    static void promise9_the_first_of_several(String title) {
        Edge e = Edge.furnished(title);
        for (int digest : Edge.wrong(0, 3)) {
            e.due(UNKNOWN, "read", digest, 5, 0);
            e.due(UNKNOWN, "read", digest, 0, 32);
            e.due(UNKNOWN, "read", digest, -1, -1);
        }
        for (int width : Edge.wrong(0, 4)) {
            e.due(OUTSIDE, "read", 0, width, 32);
            e.due(OUTSIDE, "read", 1, width, -1);
        }
    }

    @Says(part = "Promise 10", words = "W(t) of the last BLOCK that was gone through for a DIGEST")
    static void promise10_W_of_the_last_BLOCK(String title) {
        Edge e = new Edge(title);
        // Nothing: 128 stands first. 56 bytes: their number of bits is alone in the last block. 64: 128 is in it too.
        e.due(0, "digest", 0);
        e.feedMany(56, 1);
        e.due(1, "digest", 1);
        e.feedMany(64, 1);
        e.due(2, "digest", 0);
        int[] first = {0x80000000, 0, 0x80000000};
        int[] last = {0, 448, 512};
        for (int d = 0; d < 3; d++) {
            e.due(first[d], "plan", d, 0);
            for (int t = 1; t < 15; t++) {
                e.due(0, "plan", d, t);
            }
            e.due(last[d], "plan", d, 15);
            for (int t = 16; t < 64; t++) {
                e.call("plan", d, t);
            }
        }
    }

    @Says(part = "Promise 10", words = "the last BLOCK that was gone through")
    static void promise10_of_KEYED_and_of_a_ROOT(String title) {
        Edge e = new Edge(title);
        e.due(0, "digest", 2);
        e.due(1, "root", 0);
        e.due(1, "leaf", 0, 3);
        e.due(2, "root", 0);
        ByteBuffer inner = ByteBuffer.wrap(Model.wide(block(54)));
        e.due(inner.getInt(0), "plan", 0, 0);
        e.due(inner.getInt(28), "plan", 0, 7);
        e.due(0x80000000, "plan", 0, 8);
        e.due(8 * 96, "plan", 0, 15);
        e.due(0x02000000, "plan", 1, 0);
        e.due(0x00008000, "plan", 1, 8);
        e.due(8 * 34, "plan", 1, 15);
        byte[] leaf = Model.wide(new byte[] {0, 3, 0});
        e.due(0x02010000 | (leaf[0] & 255) << 8 | leaf[1] & 255, "plan", 2, 0);
        for (int t = 0; t < 64; t++) {
            e.call("plan", 0, t);
            e.call("plan", 1, t);
            e.call("plan", 2, t);
        }
    }

    private static byte[] block(int of) {
        byte[] block = new byte[64];
        Arrays.fill(block, (byte) of);
        return block;
    }

    @Says(part = "Promise 10", words = "UNKNOWN as a long")
    static void promise10_UNKNOWN(String title) {
        Edge e = Edge.furnished(title);
        for (int digest : Edge.wrong(0, 3)) {
            e.due(UNKNOWN, "plan", digest, 0);
            e.due(UNKNOWN, "plan", digest, 63);
        }
        long unknown = new DigestTrees().plan(0, 0);
        Report.expect(unknown == -101L, title + ": UNKNOWN as a long is " + unknown);
    }

    @Says(part = "Promise 10", words = "ArrayIndexOutOfBoundsException: t is not 0 .. 63")
    static void promise10_t_is_not_0_to_63(String title) {
        Edge e = Edge.furnished(title);
        for (int digest = 0; digest <= 3; digest++) {
            for (int t : Edge.wrong(0, 63)) {
                e.due(BOUNDS, "plan", digest, t);
            }
            e.call("plan", digest, 0);
            e.call("plan", digest, 63);
        }
    }

    @Says(part = "Promise 10", words = "UNKNOWN as a long. ArrayIndexOutOfBoundsException: t is not 0 .. 63")
    static void promise10_UNKNOWN_ahead_of_the_exception(String title) {
        Edge e = Edge.furnished(title);
        for (int digest : Edge.wrong(0, 3)) {
            e.due(UNKNOWN, "plan", digest, -1);
            e.due(UNKNOWN, "plan", digest, 64);
        }
    }

    @Says(part = "Promise 11", words = "Whether two DIGESTS have the same bytes: 1, 0")
    static void promise11_whether_two_have_the_same_bytes(String title) {
        Edge e = Edge.furnished(title);
        for (int a = 0; a <= 3; a++) {
            for (int b = 0; b <= 3; b++) {
                e.due(a == b ? 1 : 0, "same", a, b);
            }
        }
        // Of other sorts, of the same bytes: what KEYED by an empty key and a root are of, said as messages.
        e.due(2, "key");
        e.due(0, "key");
        e.due(4, "digest", 2);
        e.feedAll(Model.join(block(92), Model.wide(block(54))));
        e.due(5, "digest", 0);
        e.due(1, "same", 4, 5);
        e.due(1, "same", 5, 4);
        e.due(6, "root", 0);
        e.feedAll(Model.join(new byte[] {2}, new byte[33]));
        e.due(7, "digest", 0);
        e.due(1, "same", 6, 7);
        e.due(0, "same", 5, 7);
    }

    @Says(part = "Promise 11", words = "UNKNOWN")
    static void promise11_UNKNOWN(String title) {
        Edge e = Edge.furnished(title);
        for (int x : Edge.wrong(0, 3)) {
            e.due(UNKNOWN, "same", 0, x);
            e.due(UNKNOWN, "same", x, 3);
            e.due(UNKNOWN, "same", x, x);
        }
        e.fillDigests(60);
        e.due(1, "same", 59, 58);
        e.due(UNKNOWN, "same", 59, 60);
        e.due(UNKNOWN, "same", 60, 59);
    }

    @Says(part = "Promise 12", words = "K(t)")
    static void promise12_K(String title) {
        Edge e = new Edge(title);
        e.due(0x428a2f98, "table", 0);
        e.due(0xb5c0fbcf, "table", 2);
        e.due(0xbef9a3f7, "table", 62);
        e.due(0xc67178f2, "table", 63);
    }

    @Says(part = "Promise 12", words = "ArrayIndexOutOfBoundsException")
    static void promise12_ArrayIndexOutOfBoundsException(String title) {
        Edge e = Edge.furnished(title);
        for (int t : Edge.wrong(0, 63)) {
            e.due(BOUNDS, "table", t);
        }
    }

    private DigestEdgeTest() { }
}
