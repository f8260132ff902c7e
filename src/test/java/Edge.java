import java.util.ArrayList;
import java.util.Arrays;
import java.util.List;
import java.util.Set;

/** A pair for one sentence's test: behind each call that is refused, or throws, it asks whether anything has changed. */
final class Edge extends Pair {
    static final long NONE = -1, UNKNOWN = -101, OUTSIDE = -102, FULL = -103, STATE = -104;
    static final String BOUNDS = Model.BOUNDS, NULL = Model.NULL;

    static final int DIGESTS = 60, LEAVES = 12, ROWS = 40;

    // What furnish() makes: the root of tree 1 is this digest, and the tape then is this one of its leaves.
    static final int ROOT = 3, ROOT_LEAVES = 5, ROOT_LEAF = 2;

    // The spot of the empty row: the last digit of e3b0c442 .. 7852b855.
    static final int EMPTY_SPOT = 5;

    private static final Set<String> REFUSALS = Set.of("-101", "-102", "-103", "-104", BOUNDS, NULL);
    private static final Set<String> LOOKS = Set.of("told", "read", "plan", "same", "table", "check", "row", "about");

    private final List<Call> taken = new ArrayList<>();
    private List<Behind> behind = null;

    Edge(String title) {
        super(title);
    }

    static Edge furnished(String title) {
        Edge edge = new Edge(title);
        edge.furnish();
        return edge;
    }

    @Override
    String call(String name, long... args) {
        String answer = super.call(name, args);
        Call call = new Call(name, args);
        if (REFUSALS.contains(answer)) {
            holdBehind(call);
        } else if (!LOOKS.contains(name)) {
            taken.add(call);
            behind = null;
        }
        return answer;
    }

    private void holdBehind(Call refused) {
        if (behind == null) {
            behind = Behind.all(taken, room(taken), goodCheck());
        }
        for (Behind each : behind) {
            each.hold(title, taken, refused);
        }
    }

    /** Calls, and asks all that can be asked: what the call should change is changed then, and nothing else. */
    void dueAll(long want, String name, long... args) {
        List<Call> before = List.copyOf(taken);
        Call call = new Call(name, args);
        due(want, name, args);
        List<Call> after = new ArrayList<>(before);
        after.add(call);
        holdAll(after, before, call);
    }

    /** Clears, and asks all that a new object answers. */
    void dueClear(long want) {
        List<Call> before = List.copyOf(taken);
        due(want, "clear");
        holdAll(List.of(), before, new Call("clear"));
    }

    /** A new object after a run and one call more answers as is due after that other run. */
    private void holdAll(List<Call> asAfter, List<Call> run, Call last) {
        for (Behind each : Behind.all(asAfter, room(run), goodCheck())) {
            each.hold(title, run, last);
        }
    }

    private static int room(List<Call> run) {
        return Subject.CALLS_MOST - run.size() - 1;
    }

    private static Call goodCheck() {
        return new Call("check", ROOT, ROOT_LEAVES, ROOT_LEAF, ROOT_LEAF);
    }

    /** The ints next to lo .. hi, those that a byte or a short would take for lo, the smallest and the largest ones. */
    static int[] wrong(int lo, int hi) {
        int[] near = {Integer.MIN_VALUE, Integer.MIN_VALUE + 1, lo - 65536, lo - 256, lo - 1,
            hi + 1, lo + 256, lo + 65536, Integer.MAX_VALUE - 1, Integer.MAX_VALUE};
        return Arrays.stream(near).filter(x -> x < lo || x > hi).distinct().toArray();
    }

    /** Something of each kind, so that a refused call that changes anything is seen to. */
    private void furnish() {
        feedMany(5, 9);
        due(5, "key");
        for (int i = 0; i < ROOT_LEAVES; i++) {
            feedLeaf(i);
            due(i + 1, "leaf", 1, i);
        }
        due(1, "leaf", 3, 7);
        due(3, "feed", 3, 0x616263);
        due(0, "digest", 0);
        feedMany(60, 2);
        due(1, "digest", 1);
        due(2, "digest", 2);
        due(ROOT, "root", 1);
        for (int s = 0; s < 3; s++) {
            due(1, "open", s, s);
        }
        feedMany(70, 4);
        due(70, "more", 2);
        furnishStore();
        due(3, "prove", 1, ROOT_LEAF);
        feedLeaf(ROOT_LEAF);
        due(1, "check", ROOT, ROOT_LEAVES, ROOT_LEAF, ROOT_LEAF);
    }

    /** Four rows of one spot, one of another; the latest find compares all four. */
    private void furnishStore() {
        due(0, "keep");
        int[] meeting = meeting(EMPTY_SPOT, 3);
        for (int i = 0; i < 3; i++) {
            due(2, "feed", 2, meeting[i]);
            due(i + 1, "keep");
        }
        due(2, "feed", 2, meeting(EMPTY_SPOT + 1, 1)[0]);
        due(4, "keep");
        findFourth();
    }

    /** Compares all four furnished rows of one spot. */
    void findFourth() {
        due(2, "feed", 2, meeting(EMPTY_SPOT, 3)[2]);
        due(3, "find");
        due(4, "about", 4);
    }

    void feedLeaf(int i) {
        call("feed", 2, 0x5000 + i);
    }

    /** Rows of two bytes, as numbers, that have this spot. */
    static int[] meeting(int spot, int many) {
        int[] rows = new int[many];
        int found = 0;
        for (int w = 256; found < many; w++) {
            if (Model.spot(new byte[] {(byte) (w >> 8), (byte) w}) == spot) {
                rows[found++] = w;
            }
        }
        return rows;
    }

    /** Fills up to so many digests without a look at the tape. */
    void fillDigests(int upTo) {
        for (int d = model.digestCount(); d < upTo; d++) {
            due(d, "root", 2);
        }
    }

    /** Fills tree 1; takes the tape. */
    void fillTree() {
        call("key");
        for (int i = model.leaves(1).size(); i < LEAVES; i++) {
            feedLeaf(i);
            due(i + 1, "leaf", 1, i % 8);
        }
    }

    /** Fills the furnished store with rows of three bytes; the latest find compares four again; takes the tape. */
    void fillStore() {
        call("key");
        for (int row = model.rowCount(); row < ROWS; row++) {
            due(3, "feed", 3, 0x700000 + row);
            due(row, "keep");
        }
        findFourth();
    }

    /** Fills stream 0, which is open and has nothing yet; takes the tape. */
    void fillStream(int upTo) {
        call("key");
        for (int came = 0; came < upTo; ) {
            int n = Math.min(200, upTo - came);
            feedMany(n, came);
            came += n;
            due(came, "more", 0);
        }
    }

    void fillTape(int upTo) {
        feedMany(upTo - Integer.parseInt(model.answer("about", 0)), 6);
        due(upTo, "about", 0);
    }
}
