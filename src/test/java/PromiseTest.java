import java.util.Arrays;

/** For each promise: ordinary inputs, the edges that the document names, wrong inputs. */
final class PromiseTest {
    private static final long UNKNOWN = -101, OUTSIDE = -102, FULL = -103, STATE = -104, NONE = -1;
    private static final String BOUNDS = Model.BOUNDS, NULL = Model.NULL;
    private static final int[] WILD = {Integer.MIN_VALUE, Integer.MIN_VALUE + 1, -1, Integer.MAX_VALUE - 1, Integer.MAX_VALUE};

    public static void main(String[] args) {
        promise1New();
        promise2Feed();
        promise3Key();
        promise4Digest();
        promise5Open();
        promise6More();
        promise7End();
        promise8Told();
        promise9Read();
        promise10Plan();
        promise11Same();
        promise12Table();
        promise13Leaf();
        promise14Change();
        promise15Root();
        promise16Drop();
        promise17Prove();
        promise18Alter();
        promise19Check();
        promise20Keep();
        promise21Find();
        promise22Row();
        promise23About();
        promise24Clear();
        Report.close();
    }

    private static void beginning(Pair p) {
        p.due(0, "about", 0);
        p.due(0, "about", 1);
        p.due(0, "about", 2);
        p.due(0, "about", 3);
        p.due(0, "about", 4);
        p.due(1, "about", 5);
        p.due(UNKNOWN, "told", 0, 0);
        p.due(UNKNOWN, "alter", 0, 0, 0);
        p.due(NULL, "row", 0, 0);
        for (int i = 0; i < 4; i++) {
            p.due(STATE, "more", i);
            p.due(STATE, "end", i);
            p.due(UNKNOWN, "prove", i, 0);
            p.due(0, "drop", i);
        }
        p.due(0, "digest", 2);
        // HMAC-SHA256 of nothing by an empty key begins b613679a.
        p.due(0xb613679a, "read", 0, 3, 0);
        p.due(0, "key");
    }

    private static void promise1New() {
        beginning(new Pair("promise 1"));
    }

    private static void promise2Feed() {
        Pair p = new Pair("promise 2");
        p.due(OUTSIDE, "feed", 0, 5);
        p.due(OUTSIDE, "feed", 9, 5);
        for (int n : WILD) {
            p.due(OUTSIDE, "feed", n, 5);
        }
        p.due(0, "about", 0);
        int size = 0;
        for (int n = 1; n <= 8; n++) {
            size += n;
            p.due(size, "feed", n, 0x8182838485868788L);
        }
        p.due(36, "about", 0);
        p.due(0, "keep");
        for (int i = 0; i < 36; i++) {
            p.call("row", 0, i);
        }
        // The one lowest byte; then of the two lowest the higher one first.
        p.due((byte) 0x88, "row", 0, 0);
        p.due((byte) 0x87, "row", 0, 1);
        p.due((byte) 0x88, "row", 0, 2);
        p.due((byte) 0x81, "row", 0, 28);
        for (int i = 1; i <= 24; i++) {
            p.due(8 * i, "feed", 8, -i);
        }
        p.due(199, "feed", 7, 1);
        p.due(FULL, "feed", 2, 1);
        p.due(FULL, "feed", 8, 1);
        p.due(OUTSIDE, "feed", 9, 1);
        p.due(199, "about", 0);
        p.due(200, "feed", 1, 7);
        p.due(FULL, "feed", 1, 7);
        p.due(200, "about", 0);
        p.due(0, "digest", 0);
        p.lookAt(0);
    }

    private static void promise3Key() {
        Pair p = new Pair("promise 3");
        int[] sizes = {1, 63, 64, 65, 119, 120, 200, 0, 5};
        for (int size : sizes) {
            p.feedMany(size, size);
            p.due(size, "key");
            p.due(0, "about", 0);
            p.feedMany(3, 8);
            p.call("digest", 2);
            p.lookAt(p.model.digestCount() - 1);
        }
        p.due(0, "key");
        p.call("digest", 2);
        p.lookAt(p.model.digestCount() - 1);
    }

    private static void promise4Digest() {
        for (int sort = 0; sort <= 2; sort++) {
            int[] sizes = {0, 1, 55, 56, 63, 64, 118, 119, 120, 128, 200};
            Pair p = new Pair("promise 4, sort " + sort);
            p.feedMany(20, 3);
            p.call("key");
            for (int size : sizes) {
                p.feedMany(size, size + sort);
                p.call("digest", sort);
                p.due(0, "about", 0);
                p.lookAt(p.model.digestCount() - 1);
            }
        }
        Pair p = new Pair("promise 4, refusals");
        p.due(3, "feed", 3, 0x616263);
        p.due(OUTSIDE, "digest", 3);
        for (int sort : WILD) {
            p.due(OUTSIDE, "digest", sort);
        }
        p.due(3, "about", 0);
        p.due(0, "digest", 0);
        p.due(0xba7816bf8f01cfeaL, "read", 0, 4, 0);
        p.due(0xb410ff61f20015adL, "read", 0, 4, 24);
        for (int i = 1; i < 60; i++) {
            p.due(i, "digest", i % 3);
        }
        p.due(3, "feed", 3, 0x616263);
        p.due(OUTSIDE, "digest", 3);
        p.due(FULL, "digest", 0);
        p.due(FULL, "digest", 1);
        p.due(FULL, "digest", 2);
        p.due(3, "about", 0);
        p.due(60, "about", 1);
        p.due(UNKNOWN, "told", 60, 0);
        p.lookAt(0);
        p.lookAt(59);
    }

    private static void promise5Open() {
        Pair p = new Pair("promise 5");
        p.feedMany(70, 1);
        p.call("key");
        p.due(OUTSIDE, "open", 4, 0);
        p.due(OUTSIDE, "open", 0, 3);
        for (int x : WILD) {
            p.due(OUTSIDE, "open", x, 0);
            p.due(OUTSIDE, "open", 0, x);
        }
        p.due(4, "feed", 4, 1);
        for (int i = 0; i < 4; i++) {
            p.due(1, "open", i, i % 3);
            p.due(STATE, "open", i, 2);
            p.due(OUTSIDE, "open", i, 3);
        }
        p.due(4, "about", 0);
        p.due(4, "more", 2);
        // The stream goes by the key as it was when it was opened.
        p.due(2, "feed", 2, 77);
        p.due(2, "key");
        p.due(3, "feed", 3, 9);
        p.due(7, "more", 2);
        p.due(0, "end", 2);
        p.lookAt(0);
        p.due(1, "open", 2, 2);
        p.due(1, "end", 2);
        p.lookAt(1);
        p.due(0, "same", 0, 1);
    }

    private static void promise6More() {
        Pair p = new Pair("promise 6");
        p.due(OUTSIDE, "more", 4);
        for (int x : WILD) {
            p.due(OUTSIDE, "more", x);
        }
        p.due(1, "open", 0, 0);
        p.due(1, "open", 3, 1);
        p.due(0, "more", 0);
        p.due(5, "feed", 5, 5);
        p.due(STATE, "more", 1);
        p.due(5, "about", 0);
        p.due(5, "more", 3);
        p.due(0, "about", 0);
        p.due(0, "more", 0);
        for (int i = 1; i <= 9; i++) {
            p.feedMany(200, i);
            p.due(200 * i, "more", 0);
        }
        p.feedMany(199, 7);
        p.due(1999, "more", 0);
        p.due(2, "feed", 2, 2);
        p.due(FULL, "more", 0);
        p.due(2, "about", 0);
        p.due(7, "more", 3);
        p.due(1, "feed", 1, 1);
        p.due(2000, "more", 0);
        p.due(2000, "more", 0);
        p.due(1, "feed", 1, 1);
        p.due(FULL, "more", 0);
        p.due(0, "end", 0);
        p.due(32, "told", 0, 2);
        p.lookAt(0);
        p.due(1, "end", 3);
        p.lookAt(1);
        p.due(1, "about", 0);
    }

    private static void promise7End() {
        Pair p = new Pair("promise 7");
        p.due(OUTSIDE, "end", 4);
        for (int x : WILD) {
            p.due(OUTSIDE, "end", x);
        }
        p.due(STATE, "end", 0);
        p.feedMany(9, 4);
        p.call("key");
        piecesMakeOne(p);
        for (int i = p.model.digestCount(); i < 60; i++) {
            p.due(i, "digest", 0);
        }
        p.due(1, "open", 1, 0);
        p.due(3, "feed", 3, 3);
        p.due(3, "more", 1);
        p.due(OUTSIDE, "end", 4);
        p.due(STATE, "end", 0);
        p.due(FULL, "end", 1);
        p.due(STATE, "open", 1, 0);
        p.due(3, "more", 1);
        p.due(60, "clear");
        p.due(STATE, "end", 1);
    }

    /** Streams of all sorts at once, with pieces that go over the blocks' ends, against whole messages. */
    private static void piecesMakeOne(Pair p) {
        int[] pieces = {1, 54, 1, 63, 64, 0, 17};
        for (int s = 0; s < 3; s++) {
            p.due(1, "open", s, s);
        }
        byte[] all = {};
        for (int k = 0; k < pieces.length; k++) {
            byte[] piece = new byte[pieces[k]];
            Arrays.fill(piece, (byte) (k * 40 + 1));
            all = Model.join(all, piece);
            for (int s = 0; s < 3; s++) {
                p.feedAll(piece);
                p.due(all.length, "more", s);
            }
        }
        for (int s = 0; s < 3; s++) {
            p.feedAll(all);
            p.due(2 * s, "digest", s);
            p.due(2 * s + 1, "end", s);
            p.due(STATE, "end", s);
            p.due(1, "same", 2 * s, 2 * s + 1);
            p.lookAt(2 * s + 1);
        }
    }

    private static void promise8Told() {
        Pair p = new Pair("promise 8");
        p.due(UNKNOWN, "told", 0, 0);
        p.due(UNKNOWN, "told", 0, 9);
        p.due(0, "digest", 0);
        p.due(1, "digest", 1);
        p.due(2, "digest", 2);
        int[] bytes = {32, 28, 32};
        int[] blocks = {1, 1, 4};
        for (int d = 0; d < 3; d++) {
            p.due(d, "told", d, 0);
            p.due(bytes[d], "told", d, 1);
            p.due(blocks[d], "told", d, 2);
            p.due(OUTSIDE, "told", d, 3);
            for (int x : WILD) {
                p.due(OUTSIDE, "told", d, x);
                p.due(UNKNOWN, "told", x, 0);
            }
        }
        p.due(UNKNOWN, "told", 3, 0);
        p.due(UNKNOWN, "told", 3, 3);
        p.feedMany(120, 1);
        p.due(120, "key");
        p.due(1, "open", 0, 2);
        p.feedMany(56, 1);
        p.due(56, "more", 0);
        p.due(3, "end", 0);
        p.due(3 + 3 + 2, "told", 3, 2);
        for (int i = 1; i <= 12; i++) {
            p.feedMany(40, i);
            p.due(i, "leaf", 0, 1);
        }
        p.due(4, "root", 0);
        p.due(0, "told", 4, 0);
        p.due(32, "told", 4, 1);
        p.due(1, "told", 4, 2);
        p.due(2, "told", 2, 0);
    }

    private static void promise9Read() {
        for (int sort = 0; sort <= 1; sort++) {
            Pair p = new Pair("promise 9, sort " + sort);
            p.due(UNKNOWN, "read", 0, 0, 0);
            p.due(UNKNOWN, "read", 0, 5, 99);
            p.feedMany(9, 5);
            p.due(0, "digest", 0);
            p.feedMany(9, 6);
            p.due(1, "digest", sort);
            int size = sort == 0 ? 32 : 28;
            int[] needs = {1, 2, 2, 4, 8};
            for (int width = 0; width <= 4; width++) {
                for (int i = 0; i <= size - needs[width]; i++) {
                    p.call("read", 1, width, i);
                }
                p.due(BOUNDS, "read", 1, width, size - needs[width] + 1);
                p.due(BOUNDS, "read", 1, width, size);
                for (int x : WILD) {
                    p.due(BOUNDS, "read", 1, width, x);
                    p.due(UNKNOWN, "read", x, width, 0);
                }
            }
            for (int x : WILD) {
                p.due(OUTSIDE, "read", 1, x, 0);
            }
            p.due(OUTSIDE, "read", 1, 5, 0);
            p.due(OUTSIDE, "read", 1, 5, 99);
            p.due(UNKNOWN, "read", 2, 0, 99);
        }
    }

    private static void promise10Plan() {
        for (int sort = 0; sort <= 2; sort++) {
            Pair p = new Pair("promise 10, sort " + sort);
            p.due(UNKNOWN, "plan", 0, 0);
            p.due(UNKNOWN, "plan", 0, 64);
            p.feedMany(66, 3);
            p.due(66, "key");
            p.feedMany(100, 5);
            p.due(0, "digest", sort);
            p.feedMany(56, 6);
            p.due(1, "digest", sort);
            p.feedMany(3, 6);
            p.due(1, "leaf", 0, 1);
            p.due(2, "root", 0);
            p.due(BOUNDS, "plan", 0, 64);
            p.due(UNKNOWN, "plan", 3, 0);
            p.due(UNKNOWN, "plan", 3, 64);
            for (int x : WILD) {
                p.due(BOUNDS, "plan", 0, x);
                p.due(UNKNOWN, "plan", x, 0);
            }
            for (int d = 0; d < 3; d++) {
                for (int t = 0; t < 64; t++) {
                    p.call("plan", d, t);
                }
            }
            p.lookAt(0);
        }
        Pair p = new Pair("promise 10, signs");
        p.due(4, "feed", 4, 0x80000001L);
        p.due(0, "digest", 0);
        p.due(0x80000001, "plan", 0, 0);
        p.due(0x80000000, "plan", 0, 1);
        p.due(32, "plan", 0, 15);
    }

    private static void promise11Same() {
        Pair p = new Pair("promise 11");
        p.due(UNKNOWN, "same", 0, 0);
        p.due(0, "digest", 0);
        p.due(1, "digest", 1);
        p.due(2, "digest", 2);
        p.due(3, "digest", 0);
        p.due(4, "digest", 1);
        p.due(1, "feed", 1, 0);
        p.due(5, "digest", 0);
        for (int a = 0; a < 6; a++) {
            for (int b = 0; b < 6; b++) {
                boolean alike = a == b || a == 0 && b == 3 || a == 3 && b == 0 || a == 1 && b == 4 || a == 4 && b == 1;
                p.due(alike ? 1 : 0, "same", a, b);
            }
            p.due(UNKNOWN, "same", a, 6);
            p.due(UNKNOWN, "same", 6, a);
            for (int x : WILD) {
                p.due(UNKNOWN, "same", a, x);
                p.due(UNKNOWN, "same", x, a);
            }
        }
        // A root is a digest like others: those of other sorts may have its bytes.
        p.due(6, "root", 0);
        p.due(2, "feed", 2, 0x0200);
        for (int i = 0; i < 4; i++) {
            p.call("feed", 8, 0);
        }
        p.due(7, "digest", 0);
        p.due(1, "same", 6, 7);
    }

    private static void promise12Table() {
        Pair p = new Pair("promise 12");
        for (int t = 0; t < 64; t++) {
            p.call("table", t);
        }
        p.due(0x428a2f98, "table", 0);
        p.due(0xc67178f2, "table", 63);
        p.due(BOUNDS, "table", 64);
        for (int x : WILD) {
            p.due(BOUNDS, "table", x);
        }
    }

    private static void promise13Leaf() {
        Pair p = new Pair("promise 13");
        p.feedMany(40, 1);
        p.due(OUTSIDE, "leaf", 4, 0);
        p.due(OUTSIDE, "leaf", 0, 8);
        for (int x : WILD) {
            p.due(OUTSIDE, "leaf", x, 0);
            p.due(OUTSIDE, "leaf", 0, x);
        }
        p.due(40, "about", 0);
        p.due(1, "leaf", 0, 7);
        p.due(0, "about", 0);
        p.due(2, "leaf", 0, 0);
        p.feedMany(41, 1);
        p.due(OUTSIDE, "leaf", 0, 0);
        p.due(41, "about", 0);
        p.due(41, "key");
        for (int i = 3; i <= 12; i++) {
            p.feedMany(i, i);
            p.due(i, "leaf", 0, i % 8);
        }
        p.feedMany(3, 3);
        p.due(FULL, "leaf", 0, 1);
        p.due(OUTSIDE, "leaf", 0, 8);
        p.due(OUTSIDE, "leaf", 4, 1);
        p.due(3, "about", 0);
        p.due(1, "leaf", 3, 1);
        p.feedMany(41, 1);
        p.due(OUTSIDE, "leaf", 0, 1);
        p.due(0, "root", 0);
        p.lookAt(0);
        p.due(1, "root", 3);
        p.lookAt(1);
    }

    private static void promise14Change() {
        Pair p = new Pair("promise 14");
        p.due(UNKNOWN, "change", 0, 0, 0);
        for (int i = 0; i < 5; i++) {
            p.feedMany(2, i);
            p.due(i + 1, "leaf", 1, i);
        }
        p.due(0, "root", 1);
        p.feedMany(40, 9);
        p.due(OUTSIDE, "change", 4, 9, 9);
        p.due(UNKNOWN, "change", 1, 5, 9);
        p.due(UNKNOWN, "change", 0, 0, 0);
        p.due(OUTSIDE, "change", 1, 4, 8);
        for (int x : WILD) {
            p.due(OUTSIDE, "change", x, 0, 0);
            p.due(UNKNOWN, "change", 1, x, 0);
            p.due(OUTSIDE, "change", 1, 0, x);
        }
        p.due(40, "about", 0);
        p.due(1, "root", 1);
        p.due(1, "same", 0, 1);
        p.due(3, "change", 1, 3, 6);
        p.due(0, "about", 0);
        p.due(2, "root", 1);
        p.lookAt(2);
        p.due(0, "same", 0, 2);
        p.feedMany(2, 3);
        p.due(6, "change", 1, 3, 3);
        p.due(3, "root", 1);
        p.due(1, "same", 0, 3);
        p.feedMany(41, 9);
        p.due(OUTSIDE, "change", 1, 3, 3);
        p.due(UNKNOWN, "change", 1, 5, 3);
        p.due(41, "about", 0);
        p.due(4, "root", 1);
        p.due(1, "same", 0, 4);
    }

    private static void promise15Root() {
        for (int most = 0; most <= 12; most++) {
            Pair p = new Pair("promise 15, " + most + " leaves");
            for (int i = 1; i <= most; i++) {
                p.feedMany((i * 17) % 41, i);
                p.due(i, "leaf", 2, i % 8);
            }
            p.due(5, "feed", 5, 5);
            p.due(0, "root", 2);
            p.due(5, "about", 0);
            p.lookAt(0);
            p.due(1, "root", 2);
            p.due(1, "same", 0, 1);
        }
        Pair p = new Pair("promise 15, refusals");
        p.due(OUTSIDE, "root", 4);
        for (int x : WILD) {
            p.due(OUTSIDE, "root", x);
        }
        // Kinds and lengths are bound in: none of these three leaves may stand for another.
        p.due(1, "leaf", 0, 0);
        p.due(0, "root", 0);
        p.due(0, "change", 0, 0, 1);
        p.due(1, "root", 0);
        p.due(1, "feed", 1, 0);
        p.due(1, "change", 0, 0, 0);
        p.due(2, "root", 0);
        p.due(0, "same", 0, 1);
        p.due(0, "same", 0, 2);
        p.due(0, "same", 1, 2);
        for (int i = 3; i < 60; i++) {
            p.due(i, "root", i % 4);
        }
        p.due(FULL, "root", 0);
        p.due(OUTSIDE, "root", 4);
        p.due(60, "about", 1);
    }

    private static void promise16Drop() {
        Pair p = new Pair("promise 16");
        p.due(OUTSIDE, "drop", 4);
        for (int x : WILD) {
            p.due(OUTSIDE, "drop", x);
        }
        p.due(0, "root", 1);
        for (int i = 1; i <= 12; i++) {
            p.feedMany(5, i);
            p.due(i, "leaf", 1, 1);
        }
        p.due(1, "leaf", 2, 1);
        p.due(1, "root", 2);
        p.due(5, "feed", 5, 5);
        p.due(12, "drop", 1);
        p.due(5, "about", 0);
        p.due(0, "drop", 1);
        p.due(UNKNOWN, "change", 1, 0, 0);
        p.due(UNKNOWN, "prove", 1, 0);
        p.due(2, "root", 1);
        p.due(1, "same", 0, 2);
        p.due(3, "root", 2);
        p.due(1, "same", 1, 3);
        p.due(1, "leaf", 1, 3);
        p.due(4, "root", 1);
        p.lookAt(4);
        p.due(1, "drop", 2);
    }

    private static void promise17Prove() {
        // By hand: one for each level where the way up is not alone.
        int[][] many = {{0}, {1, 1}, {2, 2, 1}, {2, 2, 2, 2}, {3, 3, 3, 3, 1}, {3, 3, 3, 3, 2, 2},
            {3, 3, 3, 3, 3, 3, 2}, {3, 3, 3, 3, 3, 3, 3, 3}, {4, 4, 4, 4, 4, 4, 4, 4, 1},
            {4, 4, 4, 4, 4, 4, 4, 4, 2, 2}, {4, 4, 4, 4, 4, 4, 4, 4, 3, 3, 2}, {4, 4, 4, 4, 4, 4, 4, 4, 3, 3, 3, 3}};
        Pair p = new Pair("promise 17");
        for (int n = 1; n <= 12; n++) {
            p.feedMany(n, n);
            p.due(n, "leaf", 0, n % 8);
            for (int i = 0; i < n; i++) {
                p.due(many[n - 1][i], "prove", 0, i);
                for (int k = 0; k < many[n - 1][i]; k++) {
                    p.call("alter", k, k, 0);
                }
            }
            p.due(UNKNOWN, "prove", 0, n);
        }
        Pair q = new Pair("promise 17, refusals");
        q.due(1, "leaf", 1, 1);
        q.due(2, "leaf", 1, 2);
        q.due(1, "prove", 1, 0);
        q.due(OUTSIDE, "prove", 4, 9);
        q.due(UNKNOWN, "prove", 1, 2);
        q.due(UNKNOWN, "prove", 0, 0);
        for (int x : WILD) {
            q.due(OUTSIDE, "prove", x, 0);
            q.due(UNKNOWN, "prove", 1, x);
        }
        q.due(0, "root", 1);
        q.due(1, "check", 0, 2, 0, 1);
        // A proof stays what it was when its tree changes or goes.
        q.due(2, "change", 1, 1, 5);
        q.due(1, "check", 0, 2, 0, 1);
        q.due(2, "drop", 1);
        q.due(1, "check", 0, 2, 0, 1);
    }

    private static void promise18Alter() {
        Pair p = new Pair("promise 18");
        p.due(UNKNOWN, "alter", 0, 0, 0);
        p.due(UNKNOWN, "alter", 0, 99, 999);
        p.due(1, "leaf", 0, 0);
        p.due(0, "prove", 0, 0);
        p.due(UNKNOWN, "alter", 0, 0, 0);
        for (int i = 2; i <= 12; i++) {
            p.feedMany(i, i);
            p.due(i, "leaf", 0, 0);
        }
        p.due(4, "prove", 0, 0);
        for (int k = 0; k < 4; k++) {
            for (int i = 0; i < 32; i++) {
                p.call("alter", k, i, 0);
            }
            p.due(OUTSIDE, "alter", k, 32, 0);
            p.due(OUTSIDE, "alter", k, 0, 256);
            for (int x : WILD) {
                p.due(OUTSIDE, "alter", k, x, 0);
                p.due(OUTSIDE, "alter", k, 0, x);
                p.due(UNKNOWN, "alter", x, 0, 0);
            }
        }
        p.due(UNKNOWN, "alter", 4, 0, 0);
        p.due(UNKNOWN, "alter", 4, 32, 256);
        p.due(0, "root", 0);
        p.due(1, "check", 0, 12, 0, 0);
        p.call("alter", 3, 31, 255);
        p.due(0, "check", 0, 12, 0, 0);
        p.call("alter", 3, 31, 255);
        p.due(1, "check", 0, 12, 0, 0);
        p.call("alter", 1, 0, 1);
        p.due(0, "check", 0, 12, 0, 0);
        // What is altered is the proof alone, not the tree.
        p.due(4, "prove", 0, 0);
        p.due(1, "check", 0, 12, 0, 0);
    }

    private static void promise19Check() {
        for (int n = 1; n <= 12; n++) {
            Pair p = new Pair("promise 19, " + n + " leaves");
            for (int i = 0; i < n; i++) {
                p.feedMany(i, i);
                p.due(i + 1, "leaf", 0, i % 8);
            }
            p.due(0, "root", 0);
            for (int i = 0; i < n; i++) {
                p.call("prove", 0, i);
                p.feedMany(i, i);
                p.due(1, "check", 0, n, i, i % 8);
                p.due(i, "about", 0);
                p.due(0, "check", 0, n, i, (i + 1) % 8);
                for (int k = 1; k <= 12; k++) {
                    p.call("check", 0, k, i, i % 8);
                }
                for (int k = 0; k < n; k++) {
                    p.due(k == i ? 1 : 0, "check", 0, n, k, i % 8);
                }
                p.call("find");
            }
        }
        promise19Refusals();
        promise19OtherDigests();
        promise19OtherNumbers();
    }

    private static void promise19Refusals() {
        Pair p = new Pair("promise 19, refusals");
        p.due(1, "leaf", 0, 2);
        p.due(2, "leaf", 0, 3);
        p.due(UNKNOWN, "check", 0, 2, 0, 2);
        p.due(UNKNOWN, "check", 0, 0, 9, 9);
        p.due(0, "root", 0);
        // Nothing has been proved yet.
        p.due(0, "check", 0, 2, 0, 2);
        p.due(1, "prove", 0, 0);
        p.due(OUTSIDE, "check", 0, 0, 0, 2);
        p.due(OUTSIDE, "check", 0, 13, 0, 2);
        p.due(OUTSIDE, "check", 0, 2, 2, 2);
        p.due(OUTSIDE, "check", 0, 2, 0, 8);
        p.due(UNKNOWN, "check", 1, 2, 0, 2);
        for (int x : WILD) {
            p.due(UNKNOWN, "check", x, 2, 0, 2);
            p.due(OUTSIDE, "check", 0, x, 0, 2);
            p.due(OUTSIDE, "check", 0, 2, x, 2);
            p.due(OUTSIDE, "check", 0, 2, 0, x);
        }
        p.due(1, "check", 0, 2, 0, 2);
        p.feedMany(40, 1);
        p.due(0, "check", 0, 2, 0, 2);
        p.due(41, "feed", 1, 1);
        p.due(OUTSIDE, "check", 0, 2, 0, 2);
        p.due(UNKNOWN, "check", 1, 2, 0, 2);
        p.due(41, "about", 0);
    }

    private static void promise19OtherDigests() {
        Pair p = new Pair("promise 19, digests of other sorts");
        p.due(1, "leaf", 0, 2);
        p.due(0, "prove", 0, 0);
        byte[] leaf = Model.wide(new byte[] {0, 2, 0});
        for (int sort = 0; sort <= 2; sort++) {
            p.feedAll(Model.join(new byte[] {2, 1}, leaf));
            p.due(sort, "digest", sort);
            p.due(sort == 0 ? 1 : 0, "check", sort, 1, 0, 2);
        }
    }

    /** A proof that has more than it must have, or less, though what else is needed would be right. */
    private static void promise19OtherNumbers() {
        Pair p = new Pair("promise 19, proofs of other numbers");
        p.due(1, "leaf", 0, 2);
        p.due(0, "root", 0);
        // Without a proof nothing stands beside the leaf, as it must be in a tree of one.
        p.due(1, "check", 0, 1, 0, 2);
        p.due(1, "leaf", 1, 2);
        p.due(2, "leaf", 1, 3);
        p.due(1, "root", 1);
        p.due(0, "check", 1, 2, 0, 2);
        p.due(1, "prove", 1, 0);
        p.due(1, "check", 1, 2, 0, 2);
        p.due(0, "check", 0, 1, 0, 2);
        p.due(0, "prove", 0, 0);
        p.due(1, "check", 0, 1, 0, 2);
        p.due(0, "check", 1, 2, 0, 2);
    }

    private static void promise20Keep() {
        Pair p = new Pair("promise 20");
        p.feedMany(41, 1);
        p.due(OUTSIDE, "keep");
        p.due(41, "about", 0);
        p.due(41, "key");
        for (int i = 0; i < 40; i++) {
            p.feedMany(i + 1, 7);
            p.due(i, "keep");
            p.due(0, "about", 0);
            p.call("about", 4);
        }
        for (int i = 0; i < 40; i += 3) {
            p.feedMany(i + 1, 7);
            p.due(i, "keep");
            p.call("about", 4);
        }
        p.call("about", 3);
        p.due(40, "about", 2);
        // Not there, and 40 are: nothing changes, not even how many were compared latest.
        p.due(FULL, "keep");
        p.call("about", 4);
        p.due(1, "feed", 1, 200);
        p.due(FULL, "keep");
        p.due(1, "about", 0);
        p.call("about", 4);
        p.due(40, "about", 2);
        Pair q = new Pair("promise 20, rows of one byte");
        for (int i = 0; i < 40; i++) {
            q.due(1, "feed", 1, i);
            q.due(i, "keep");
        }
    }

    private static void promise21Find() {
        Pair p = new Pair("promise 21");
        p.due(NONE, "find");
        p.due(0, "keep");
        p.due(0, "find");
        for (int i = 1; i < 30; i++) {
            p.due(2, "feed", 2, i);
            p.due(NONE, "find");
            p.due(0, "about", 0);
            p.call("about", 4);
            p.due(2, "feed", 2, i);
            p.due(i, "keep");
        }
        for (int i = 1; i < 30; i++) {
            p.due(2, "feed", 2, i);
            p.due(i, "find");
            p.call("about", 4);
            p.due(3, "feed", 3, i);
            p.due(NONE, "find");
        }
        p.due(30, "about", 2);
        p.feedMany(40, 1);
        p.due(NONE, "find");
        p.feedMany(41, 1);
        p.due(OUTSIDE, "find");
        p.due(41, "about", 0);
        p.call("about", 4);
    }

    private static void promise22Row() {
        Pair p = new Pair("promise 22");
        for (int row = 0; row < 40; row++) {
            p.due(NULL, "row", row, 0);
        }
        p.due(NULL, "row", 0, -1);
        p.due(BOUNDS, "row", 40, 0);
        for (int x : WILD) {
            p.due(BOUNDS, "row", x, 0);
            p.due(NULL, "row", 39, x);
        }
        p.due(0, "keep");
        p.due(BOUNDS, "row", 0, 0);
        p.due(8, "feed", 8, 0x807f00ff01fe0280L);
        p.due(1, "keep");
        int[] bytes = {-128, 127, 0, -1, 1, -2, 2, -128};
        for (int i = 0; i < 8; i++) {
            p.due(bytes[i], "row", 1, i);
        }
        p.due(BOUNDS, "row", 1, 8);
        for (int x : WILD) {
            p.due(BOUNDS, "row", 1, x);
        }
        p.feedMany(40, 40);
        p.due(2, "keep");
        for (int i = 0; i < 40; i++) {
            p.call("row", 2, i);
        }
        p.due(BOUNDS, "row", 2, 40);
        p.due(NULL, "row", 3, 0);
        p.due(NULL, "row", 3, 99);
        p.due(NULL, "row", 39, 0);
        p.due(BOUNDS, "row", 40, 99);
    }

    private static void promise23About() {
        Pair p = new Pair("promise 23");
        for (int x : WILD) {
            p.due(OUTSIDE, "about", x);
        }
        p.due(OUTSIDE, "about", 6);
        p.look();
        // Of all rows of two bytes some meet: 40 rows have 16 spots.
        for (int i = 0; i < 40; i++) {
            p.due(2, "feed", 2, i);
            p.due(i, "keep");
            p.call("about", 3);
            p.call("about", 4);
        }
        p.due(2, "feed", 2, 20);
        p.due(2, "about", 0);
        p.due(0, "digest", 0);
        p.due(1, "about", 1);
        p.due(40, "about", 2);
        p.due(1, "about", 5);
        p.feedMany(41, 1);
        p.due(OUTSIDE, "keep");
        p.due(OUTSIDE, "find");
        p.call("about", 4);
        new Pair("promise 23, another object").due(1, "about", 5);
        p.due(1, "about", 5);
    }

    private static void promise24Clear() {
        Pair p = new Pair("promise 24");
        p.due(0, "clear");
        for (int i = 0; i < 4; i++) {
            p.due(1, "open", i, i % 3);
            p.feedMany(3, i);
            p.due(3, "more", i);
            for (int k = 1; k <= 3; k++) {
                p.feedMany(3, k);
                p.due(k, "leaf", i, 1);
            }
        }
        p.feedMany(30, 1);
        p.due(0, "keep");
        p.due(NONE, "find");
        p.feedMany(30, 1);
        p.due(0, "find");
        p.due(1, "about", 4);
        p.due(0, "digest", 1);
        p.due(1, "root", 0);
        p.due(2, "prove", 0, 0);
        p.feedMany(100, 1);
        p.due(100, "key");
        p.feedMany(10, 1);
        p.due(2, "clear");
        beginning(p);
        p.due(1, "clear");
        // What is made after it has nothing of what was there before.
        p.due(0, "keep");
        p.due(BOUNDS, "row", 0, 0);
        p.due(1, "open", 0, 0);
        p.due(0, "more", 0);
        p.due(0, "end", 0);
        p.lookAt(0);
        p.due(1, "leaf", 0, 0);
        p.due(1, "root", 0);
        p.lookAt(1);
        p.due(2, "clear");
        p.due(0, "clear");
    }

    private PromiseTest() { }
}
