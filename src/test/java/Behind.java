import java.util.ArrayList;
import java.util.List;

/** Calls behind a run of calls, with the answers that are due there. */
final class Behind {
    private static final int TREES = 4, STREAMS = 4, PROOF_MOST = 4;

    private final Model model = new Model();
    private final int most;
    private final List<Call> calls = new ArrayList<>();
    private final List<String> dues = new ArrayList<>();

    /** One for each call that may be the very next one, since that one could hide what has changed. */
    static List<Behind> all(List<Call> run, int most, Call check) {
        Call[] nexts = {new Call("about", 4), new Call("feed", 1, 200), new Call("digest", 0), new Call("leaf", 1, 4),
            new Call("keep"), new Call("find"), new Call("alter", 0, 31, 1), check};
        List<Behind> all = new ArrayList<>();
        for (Call next : nexts) {
            all.add(new Behind(run, most, next, check));
        }
        return all;
    }

    private Behind(List<Call> run, int most, Call next, Call check) {
        this.most = most;
        for (Call call : run) {
            model.answer(call);
        }
        add(next);
        look();
        add(check);
        useUp();
    }

    /** A new object after that run and one call more answers as is due without that call. */
    void hold(String title, List<Call> run, Call between) {
        Subject made = new Subject(title + ", behind " + between);
        for (Call call : run) {
            made.ask(call);
        }
        made.ask(between);
        for (int i = 0; i < calls.size(); i++) {
            made.hold(calls.get(i), dues.get(i));
        }
    }

    private void add(String name, long... args) {
        add(new Call(name, args));
    }

    private void add(Call call) {
        if (calls.size() < most) {
            calls.add(call);
            dues.add(model.answer(call));
        }
    }

    private void look() {
        for (int what = 0; what <= 5; what++) {
            add("about", what);
        }
        int digests = model.digestCount();
        for (int d : new int[] {0, 1, 2, 3, digests - 1}) {
            lookAt(d);
        }
        for (int row : new int[] {0, 1, model.rowCount() - 1, model.rowCount()}) {
            add("row", row, 0);
            add("row", row, 1);
        }
        for (int k = 0; k < PROOF_MOST; k++) {
            add("alter", k, 0, 0);
            add("alter", k, 31, 0);
        }
    }

    private void lookAt(int digest) {
        for (int what = 0; what <= 2; what++) {
            add("told", digest, what);
        }
        add("read", digest, 4, 0);
        add("read", digest, 4, 20);
        add("plan", digest, 15);
        add("plan", digest, 63);
    }

    /** What can only be seen by calls that take it away: the key, the streams, the trees, the rows. */
    private void useUp() {
        add("digest", 2);
        lookAt(model.digestCount() - 1);
        for (int s = 0; s < STREAMS; s++) {
            add("feed", 1, 77);
            add("more", s);
            add("end", s);
            lookAt(model.digestCount() - 1);
        }
        for (int t = 0; t < TREES; t++) {
            add("root", t);
            add("read", model.digestCount() - 1, 4, 0);
            add("prove", t, 0);
            add("alter", 0, 5, 0);
            add("prove", t, 1);
            add("alter", 0, 5, 0);
            add("change", t, 0, 6);
            add("change", t, model.leaves(t).size() - 1, 6);
            add("drop", t);
        }
        for (int w = 0; w < 3; w++) {
            add("feed", 2, w);
            add(w == 1 ? "find" : "keep");
            add("about", 3);
            add("about", 4);
        }
    }
}
