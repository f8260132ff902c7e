import java.util.Random;

/** Long runs of chosen calls, the same every time, each answer compared with the model's. */
final class RunTest {
    private static final int RUNS = 600, CALLS = Subject.CALLS_MOST;
    private static final String[] ALL = {"feed", "key", "digest", "open", "more", "end", "told", "read", "plan", "same",
        "table", "leaf", "change", "root", "drop", "prove", "alter", "check", "keep", "find", "row", "about", "clear"};

    // What a run is mostly made of, so that every limit of the document is met in some runs.
    private static final String[][] THEMES = {
        ALL,
        {"feed", "feed", "digest", "read", "told", "same", "plan", "about"},
        {"feed", "feed", "feed", "feed", "feed", "feed", "feed", "feed", "feed", "feed", "feed", "feed", "more", "open"},
        {"feed", "leaf", "leaf", "change", "root", "prove", "alter", "check", "same", "find"},
        {"feed", "keep", "keep", "find", "row", "about"},
        {"feed", "leaf", "prove", "check", "root", "keep", "digest", "end", "open", "more"},
        {"feed", "feed", "more", "more", "open", "end", "key", "told", "plan", "read"},
    };

    private final Random random;
    private final Pair pair;
    private final int theme;
    private int made = 0;

    private RunTest(int run) {
        random = new Random(run);
        pair = new Pair("run " + run);
        theme = run % THEMES.length;
    }

    public static void main(String[] args) {
        for (int run = 0; run < RUNS; run++) {
            new RunTest(run).go();
        }
        Report.close();
    }

    private void go() {
        while (made < CALLS) {
            String[] from = random.nextInt(12) == 0 ? ALL : THEMES[theme];
            String name = from[random.nextInt(from.length)];
            if (name.equals("clear") && random.nextInt(4) != 0) {
                continue;
            }
            if (name.equals("check") && random.nextInt(2) == 0 && made + 20 < CALLS) {
                checkWell();
            } else {
                one(name);
            }
        }
    }

    private void call(String name, long... args) {
        made++;
        pair.call(name, args);
    }

    private void one(String name) {
        switch (name) {
            case "feed": feed(); break;
            case "digest": call(name, small(3)); break;
            case "root": case "drop": call(name, small(4)); break;
            case "open": call(name, stream(), small(3)); break;
            case "more": case "end": call(name, stream()); break;
            case "told": call(name, digest(), small(3)); break;
            case "read": call(name, digest(), small(5), small(32)); break;
            case "plan": call(name, digest(), small(64)); break;
            case "same": call(name, digest(), digest()); break;
            case "table": call(name, small(64)); break;
            case "leaf": call(name, tree(), small(8)); break;
            case "change": call(name, tree(), small(12), small(8)); break;
            case "prove": call(name, tree(), small(12)); break;
            case "alter": call(name, small(4), small(32), small(256)); break;
            case "check": call(name, digest(), small(13), small(12), small(8)); break;
            case "row": call(name, small(40), small(10)); break;
            case "about": call(name, small(6)); break;
            default: call(name);
        }
    }

    /** Few different bytes in short rows, so that rows come again; in some themes long tapes. */
    private void feed() {
        boolean isLong = theme == 1 || theme == 2;
        long n = isLong && random.nextInt(8) != 0 ? 8 : small(9);
        call("feed", n, random.nextInt(3) == 0 ? random.nextLong() : random.nextInt(60));
    }

    /** A check that is right, or wrong in one thing alone. */
    private void checkWell() {
        int tree = random.nextInt(4);
        int n = pair.model.leaves(tree).size();
        if (n == 0 || pair.model.digestCount() == 60) {
            return;
        }
        int i = random.nextInt(n);
        Model.Leaf leaf = pair.model.leaves(tree).get(i);
        call("find");
        call("key");
        pair.feedAll(leaf.row());
        made += (leaf.row().length + 7) / 8;
        call("root", tree);
        call("prove", tree, i);
        int digest = pair.model.digestCount() - 1;
        if (random.nextInt(3) == 0) {
            call("alter", small(4), small(32), small(256));
        }
        int off = random.nextInt(8);
        call("check", digest, off == 0 ? n + 1 : n, off == 1 ? i + 1 : i, off == 2 ? leaf.kind() ^ 1 : leaf.kind());
    }

    private long digest() {
        return small(Math.max(1, pair.model.digestCount()));
    }

    /** In the theme of long tapes nearly always the same one, so that it fills. */
    private long stream() {
        return theme == 2 && random.nextInt(8) != 0 ? 0 : small(4);
    }

    private long tree() {
        return random.nextInt(3) == 0 ? small(4) : 1;
    }

    /** Mostly 0 .. n - 1; at times a neighbour of its ends, or something wild. */
    private long small(int n) {
        int luck = random.nextInt(60);
        if (luck == 0) {
            return -1;
        }
        if (luck == 1) {
            return n;
        }
        if (luck == 2) {
            int[] wild = {Integer.MIN_VALUE, Integer.MAX_VALUE, Integer.MAX_VALUE - 7, 1 << 16, -65536, 256};
            return wild[random.nextInt(wild.length)];
        }
        return random.nextInt(n);
    }
}
