/** The boundary cases of promises 13 to 19. */
final class TreeEdgeTest {
    private static final long UNKNOWN = Edge.UNKNOWN, OUTSIDE = Edge.OUTSIDE, FULL = Edge.FULL;

    public static void main(String[] args) {
        Sentences.run(TreeEdgeTest.class);
    }

    /** That the next root of tree 1 is the one that furnish() has made, or another. */
    private static void dueSameRoot(Edge e, int same) {
        int next = e.model.digestCount();
        e.due(next, "root", 1);
        e.due(same, "same", Edge.ROOT, next);
    }

    private static void dueCheck(Edge e, int want) {
        e.due(want, "check", Edge.ROOT, Edge.ROOT_LEAVES, Edge.ROOT_LEAF, Edge.ROOT_LEAF);
    }

    @Says(part = "Promise 13", words = "THE TAPE, which is empty then, is a LEAF more: how many")
    static void promise13_is_a_LEAF_more(String title) {
        int[] sizes = {0, 1, 39, 40};
        for (int tree = 0; tree <= 3; tree++) {
            Edge e = new Edge(title + ", tree " + tree);
            for (int i = 0; i < 12; i++) {
                e.feedMany(sizes[i % 4], i);
                e.due(i + 1, "leaf", tree, i % 8);
                e.due(0, "about", 0);
                e.due(i, "root", tree);
                e.lookAt(i);
            }
        }
    }

    @Says(part = "Promise 13", words = "OUTSIDE (tree, kind; more than 40 bytes)")
    static void promise13_OUTSIDE(String title) {
        Edge e = Edge.furnished(title);
        for (int x : Edge.wrong(0, 3)) {
            e.due(OUTSIDE, "leaf", x, 0);
        }
        for (int x : Edge.wrong(0, 7)) {
            e.due(OUTSIDE, "leaf", 1, x);
            e.due(OUTSIDE, "leaf", 0, x);
            e.due(OUTSIDE, "leaf", x < 0 ? -1 : 4, x);
        }
        dueSameRoot(e, 1);
        e.due(6, "leaf", 1, 7);
        e.due(7, "leaf", 1, 0);
        e.fillTape(41);
        e.due(OUTSIDE, "leaf", 1, 0);
        e.due(OUTSIDE, "leaf", 0, 7);
        e.due(OUTSIDE, "leaf", 4, 8);
        e.fillTape(200);
        e.due(OUTSIDE, "leaf", 1, 0);
        e.due(200, "key");
        e.fillTape(40);
        e.due(8, "leaf", 1, 0);
    }

    @Says(part = "Promise 13", words = "FULL")
    static void promise13_FULL(String title) {
        Edge e = Edge.furnished(title);
        e.fillTree();
        e.due(FULL, "leaf", 1, 0);
        e.fillTape(40);
        for (int kind = 0; kind <= 7; kind++) {
            e.due(FULL, "leaf", 1, kind);
        }
        e.due(40, "about", 0);
        e.due(1, "leaf", 0, 0);
        e.due(12, "drop", 1);
        e.due(1, "leaf", 1, 0);
    }

    @Says(part = "Promise 13", words = "OUTSIDE (tree, kind; more than 40 bytes), FULL")
    static void promise13_OUTSIDE_ahead_of_FULL(String title) {
        Edge e = Edge.furnished(title);
        e.fillTree();
        for (int kind : Edge.wrong(0, 7)) {
            e.due(OUTSIDE, "leaf", 1, kind);
        }
        for (int tree : Edge.wrong(0, 3)) {
            e.due(OUTSIDE, "leaf", tree, 1);
        }
        e.fillTape(41);
        e.due(OUTSIDE, "leaf", 1, 0);
        e.due(OUTSIDE, "leaf", 1, 8);
        e.due(41, "key");
        e.due(FULL, "leaf", 1, 0);
    }

    @Says(part = "Promise 14", words = "A LEAF becomes of another kind, and THE TAPE, which is empty then: the kind before")
    static void promise14_a_LEAF_becomes(String title) {
        for (int leaf : new int[] {0, 2, 4}) {
            Edge e = Edge.furnished(title + ", leaf " + leaf);
            e.due(2, "key");
            int kind = leaf;
            for (int size : new int[] {0, 40, 1, 39}) {
                e.feedMany(size, leaf);
                e.due(kind, "change", 1, leaf, 7 - kind);
                kind = 7 - kind;
                e.due(0, "about", 0);
                dueSameRoot(e, 0);
                e.lookAt(e.model.digestCount() - 1);
            }
            e.feedLeaf(leaf);
            e.due(kind, "change", 1, leaf, leaf);
            dueSameRoot(e, 1);
            // The same kind again is a change too.
            e.due(leaf, "change", 1, leaf, leaf);
            dueSameRoot(e, 0);
            e.due(5, "drop", 1);
        }
    }

    @Says(part = "Promise 14", words = "OUTSIDE (tree)")
    static void promise14_OUTSIDE_tree(String title) {
        Edge e = Edge.furnished(title);
        for (int tree : Edge.wrong(0, 3)) {
            e.due(OUTSIDE, "change", tree, 0, 0);
        }
        dueSameRoot(e, 1);
        e.due(7, "change", 3, 0, 0);
    }

    @Says(part = "Promise 14", words = "UNKNOWN (leaf)")
    static void promise14_UNKNOWN_leaf(String title) {
        Edge e = Edge.furnished(title);
        for (int leaf : Edge.wrong(0, 4)) {
            e.due(UNKNOWN, "change", 1, leaf, 0);
        }
        e.due(UNKNOWN, "change", 0, 0, 0);
        e.due(UNKNOWN, "change", 3, 1, 0);
        dueSameRoot(e, 1);
        e.due(4, "change", 1, 4, 0);
        e.due(0, "change", 1, 0, 0);
        e.fillTree();
        e.due(UNKNOWN, "change", 1, 12, 0);
        e.due(3, "change", 1, 11, 0);
        e.due(12, "drop", 1);
        e.due(UNKNOWN, "change", 1, 0, 0);
    }

    @Says(part = "Promise 14", words = "OUTSIDE (kind; more than 40 bytes)")
    static void promise14_OUTSIDE_kind(String title) {
        Edge e = Edge.furnished(title);
        for (int kind : Edge.wrong(0, 7)) {
            e.due(OUTSIDE, "change", 1, 0, kind);
            e.due(OUTSIDE, "change", 1, 4, kind);
        }
        e.fillTape(41);
        e.due(OUTSIDE, "change", 1, 0, 0);
        e.due(OUTSIDE, "change", 1, 4, 7);
        e.fillTape(200);
        e.due(OUTSIDE, "change", 1, 0, 0);
        dueSameRoot(e, 1);
        e.due(200, "key");
        e.fillTape(40);
        e.due(0, "change", 1, 0, 0);
        dueSameRoot(e, 0);
    }

    @Says(part = "Promise 14", words = "OUTSIDE (tree), UNKNOWN (leaf), OUTSIDE (kind; more than 40 bytes)")
    static void promise14_the_first_of_several(String title) {
        Edge e = Edge.furnished(title);
        theFirstOfChange(e);
        e.fillTape(41);
        theFirstOfChange(e);
        e.due(UNKNOWN, "change", 1, 5, 0);
        e.due(OUTSIDE, "change", 1, 4, 8);
    }

    private static void theFirstOfChange(Edge e) {
        for (int tree : Edge.wrong(0, 3)) {
            e.due(OUTSIDE, "change", tree, 5, 0);
            e.due(OUTSIDE, "change", tree, 0, 8);
            e.due(OUTSIDE, "change", tree, -1, -1);
        }
        for (int leaf : Edge.wrong(0, 4)) {
            e.due(UNKNOWN, "change", 1, leaf, 8);
            e.due(UNKNOWN, "change", 1, leaf, -1);
        }
        e.due(UNKNOWN, "change", 0, 0, 8);
    }

    @Says(part = "Promise 15", words = "THE ROOT as a DIGEST (of SORT 0): its number")
    static void promise15_THE_ROOT_as_a_DIGEST(String title) {
        Edge e = Edge.furnished(title);
        for (int tree = 0; tree <= 3; tree++) {
            e.due(4 + tree, "root", tree);
            e.due(0, "told", 4 + tree, 0);
            e.lookAt(4 + tree);
        }
        // Two empty trees have one root; the tape, the leaves and the proof stay.
        e.due(1, "same", 4, 6);
        e.due(1, "same", Edge.ROOT, 5);
        e.due(2, "about", 0);
        dueCheck(e, 1);
        dueSameRoot(e, 1);
    }

    @Says(part = "Promise 15", words = "OUTSIDE")
    static void promise15_OUTSIDE(String title) {
        Edge e = Edge.furnished(title);
        for (int tree : Edge.wrong(0, 3)) {
            e.due(OUTSIDE, "root", tree);
        }
        e.due(4, "about", 1);
    }

    @Says(part = "Promise 15", words = "FULL")
    static void promise15_FULL(String title) {
        Edge e = Edge.furnished(title);
        e.fillDigests(59);
        e.due(59, "root", 1);
        e.due(1, "same", Edge.ROOT, 59);
        for (int tree = 0; tree <= 3; tree++) {
            e.due(FULL, "root", tree);
        }
        e.due(60, "about", 1);
        e.due(60, "clear");
        e.due(0, "root", 1);
    }

    @Says(part = "Promise 15", words = "OUTSIDE, FULL")
    static void promise15_OUTSIDE_ahead_of_FULL(String title) {
        Edge e = Edge.furnished(title);
        e.fillDigests(60);
        for (int tree : Edge.wrong(0, 3)) {
            e.due(OUTSIDE, "root", tree);
        }
        e.due(FULL, "root", 0);
    }

    @Says(part = "Promise 16", words = "A TREE has no LEAVES: how many it had")
    static void promise16_a_TREE_has_no_LEAVES(String title) {
        for (int tree = 0; tree <= 3; tree++) {
            Edge e = new Edge(title + ", tree " + tree);
            for (int n : new int[] {0, 1, 12, 0}) {
                for (int i = 1; i <= n; i++) {
                    e.due(i, "leaf", tree, 1);
                }
                e.due(1, "leaf", (tree + 1) % 4, 6);
                e.due(n, "drop", tree);
                e.due(0, "drop", tree);
                e.due(UNKNOWN, "prove", tree, 0);
                e.due(UNKNOWN, "change", tree, 0, 0);
                e.call("root", tree);
                e.lookAt(e.model.digestCount() - 1);
                e.due(1, "drop", (tree + 1) % 4);
            }
        }
        // The tape and the proof stay.
        Edge e = Edge.furnished(title);
        e.due(5, "drop", 1);
        e.due(2, "about", 0);
        dueCheck(e, 1);
    }

    @Says(part = "Promise 16", words = "OUTSIDE")
    static void promise16_OUTSIDE(String title) {
        Edge e = Edge.furnished(title);
        for (int tree : Edge.wrong(0, 3)) {
            e.due(OUTSIDE, "drop", tree);
        }
        e.due(1, "drop", 3);
        e.due(5, "drop", 1);
    }

    @Says(part = "Promise 17", words = "THE PROOF becomes that of a LEAF: how many are in it")
    static void promise17_THE_PROOF_becomes(String title) {
        int[][] due = {{3, 3, 3, 3, 1}, {0}};
        Edge e = Edge.furnished(title);
        for (int tree = 1; tree <= 3; tree += 2) {
            for (int leaf = 0; leaf < due[tree / 2].length; leaf++) {
                int many = due[tree / 2][leaf];
                e.due(many, "prove", tree, leaf);
                for (int k = 0; k < many; k++) {
                    for (int i = 0; i < 32; i += 5) {
                        e.call("alter", k, i, 0);
                    }
                }
                e.due(UNKNOWN, "alter", many, 0, 0);
            }
        }
        e.due(2, "about", 0);
        e.due(4, "about", 1);
    }

    @Says(part = "Promise 17", words = "OUTSIDE (tree)")
    static void promise17_OUTSIDE_tree(String title) {
        Edge e = Edge.furnished(title);
        for (int tree : Edge.wrong(0, 3)) {
            e.due(OUTSIDE, "prove", tree, 0);
        }
        dueCheck(e, 1);
    }

    @Says(part = "Promise 17", words = "UNKNOWN (leaf)")
    static void promise17_UNKNOWN_leaf(String title) {
        Edge e = Edge.furnished(title);
        for (int leaf : Edge.wrong(0, 4)) {
            e.due(UNKNOWN, "prove", 1, leaf);
        }
        e.due(UNKNOWN, "prove", 0, 0);
        e.due(UNKNOWN, "prove", 3, 1);
        dueCheck(e, 1);
        e.fillTree();
        e.due(3, "prove", 1, 11);
        e.due(UNKNOWN, "prove", 1, 12);
        e.due(12, "drop", 1);
        e.due(UNKNOWN, "prove", 1, 0);
    }

    @Says(part = "Promise 17", words = "OUTSIDE (tree), UNKNOWN (leaf)")
    static void promise17_OUTSIDE_ahead_of_UNKNOWN(String title) {
        Edge e = Edge.furnished(title);
        for (int tree : Edge.wrong(0, 3)) {
            e.due(OUTSIDE, "prove", tree, -1);
            e.due(OUTSIDE, "prove", tree, 5);
        }
        dueCheck(e, 1);
    }

    @Says(part = "Promise 18", words = "Byte i of what is k-th in THE PROOF is xored with a mask (0 .. 255): what it is then, 0 .. 255")
    static void promise18_is_xored_with_a_mask(String title) {
        Edge e = Edge.furnished(title);
        for (int k = 0; k <= 2; k++) {
            for (int i = 0; i <= 31; i += 31) {
                int was = Integer.parseInt(e.call("alter", k, i, 0));
                dueCheck(e, 1);
                for (int mask : new int[] {1, 127, 128, 255}) {
                    e.due(was ^ mask, "alter", k, i, mask);
                    dueCheck(e, 0);
                    e.due(was, "alter", k, i, mask);
                    dueCheck(e, 1);
                }
            }
        }
        // The tree is not altered with its proof.
        e.call("alter", 0, 0, 255);
        e.due(3, "prove", 1, Edge.ROOT_LEAF);
        dueCheck(e, 1);
        dueSameRoot(e, 1);
    }

    @Says(part = "Promise 18", words = "UNKNOWN (k; also without a PROOF)")
    static void promise18_UNKNOWN_k(String title) {
        Edge none = new Edge(title + ", without a proof");
        none.due(UNKNOWN, "alter", 0, 0, 0);
        none.due(1, "leaf", 0, 0);
        none.due(UNKNOWN, "alter", 0, 0, 0);
        none.due(0, "prove", 0, 0);
        none.due(UNKNOWN, "alter", 0, 0, 0);
        Edge e = Edge.furnished(title);
        for (int k : Edge.wrong(0, 2)) {
            e.due(UNKNOWN, "alter", k, 0, 0);
            e.due(UNKNOWN, "alter", k, 31, 255);
        }
        e.call("alter", 2, 31, 0);
        e.fillTree();
        e.due(4, "prove", 1, 0);
        e.call("alter", 3, 31, 0);
        e.due(UNKNOWN, "alter", 4, 0, 0);
        // A shorter proof has nothing of the longer one before it.
        e.due(0, "prove", 3, 0);
        e.due(UNKNOWN, "alter", 0, 0, 0);
        e.due(4, "clear");
        e.due(UNKNOWN, "alter", 0, 0, 0);
    }

    @Says(part = "Promise 18", words = "OUTSIDE")
    static void promise18_OUTSIDE(String title) {
        Edge e = Edge.furnished(title);
        for (int i : Edge.wrong(0, 31)) {
            e.due(OUTSIDE, "alter", 0, i, 1);
            e.due(OUTSIDE, "alter", 2, i, 256);
        }
        for (int mask : Edge.wrong(0, 255)) {
            e.due(OUTSIDE, "alter", 0, 0, mask);
            e.due(OUTSIDE, "alter", 2, 31, mask);
        }
        dueCheck(e, 1);
    }

    @Says(part = "Promise 18", words = "UNKNOWN (k; also without a PROOF), OUTSIDE")
    static void promise18_UNKNOWN_ahead_of_OUTSIDE(String title) {
        Edge none = new Edge(title + ", without a proof");
        none.due(UNKNOWN, "alter", 0, 32, 0);
        none.due(UNKNOWN, "alter", 0, 0, 256);
        Edge e = Edge.furnished(title);
        for (int k : Edge.wrong(0, 2)) {
            e.due(UNKNOWN, "alter", k, 32, 0);
            e.due(UNKNOWN, "alter", k, 0, 256);
            e.due(UNKNOWN, "alter", k, -1, -1);
        }
    }

    @Says(part = "Promise 19", words = "Whether THE TAPE, which stays, of a kind, as LEAF i of n, with THE PROOF comes to the bytes of a DIGEST as THE ROOT: 1, 0")
    static void promise19_whether_THE_TAPE_comes_to_THE_ROOT(String title) {
        for (int n = 1; n <= 12; n++) {
            for (int i = 0; i < n; i += Math.max(1, n - 1)) {
                leafOf(title, n, i);
            }
        }
    }

    private static void leafOf(String title, int n, int i) {
        Edge e = new Edge(title + ", leaf " + i + " of " + n);
        for (int k = 0; k < n; k++) {
            e.feedMany(k == i ? 40 - n : 3, k);
            e.due(k + 1, "leaf", 2, k % 8);
        }
        e.due(0, "root", 2);
        e.call("prove", 2, i);
        e.feedMany(40 - n, i);
        e.due(1, "check", 0, n, i, i % 8);
        e.due(40 - n, "about", 0);
        e.due(0, "check", 0, n, i, (i + 1) % 8);
        // A byte more, another tape of the same length, and none.
        e.due(41 - n, "feed", 1, 0);
        e.due(0, "check", 0, n, i, i % 8);
        e.due(41 - n, "key");
        e.feedMany(40 - n, i + 1);
        e.due(0, "check", 0, n, i, i % 8);
        e.due(40 - n, "key");
        e.due(0, "check", 0, n, i, i % 8);
    }

    @Says(part = "Promise 19", words = "THE TAPE, which stays")
    static void promise19_an_empty_TAPE_and_one_of_40_bytes(String title) {
        for (int size : new int[] {0, 1, 39, 40}) {
            for (int kind = 0; kind <= 7; kind += 7) {
                Edge e = new Edge(title + ", of " + size + " bytes, of kind " + kind);
                e.feedMany(size, 1);
                e.due(1, "leaf", 0, kind);
                e.due(2, "leaf", 0, 3);
                e.due(0, "root", 0);
                e.due(1, "prove", 0, 0);
                e.feedMany(size, 1);
                e.due(1, "check", 0, 2, 0, kind);
                e.due(size, "about", 0);
                e.due(1, "check", 0, 2, 0, kind);
                e.due(1, "digest", 0);
                e.lookAt(1);
            }
        }
    }

    @Says(part = "Promise 19", words = "(also when THE PROOF has another number than it must have)")
    static void promise19_THE_PROOF_has_another_number(String title) {
        Edge e = Edge.furnished(title);
        // Three are in it: leaves of other trees must have three too, or more, or fewer.
        for (int n = 1; n <= 12; n++) {
            for (int i = 0; i < n; i++) {
                e.due(n == 5 && i == 2 ? 1 : 0, "check", Edge.ROOT, n, i, 2);
            }
        }
        numbersThatWouldHold(title);
    }

    /** Proofs that are right as far as they go, but have one too few or one too many. */
    private static void numbersThatWouldHold(String title) {
        Edge e = new Edge(title + ", one too few and one too many");
        e.due(1, "leaf", 0, 2);
        e.due(0, "root", 0);
        e.due(1, "leaf", 1, 2);
        e.due(2, "leaf", 1, 3);
        e.due(1, "root", 1);
        e.due(1, "prove", 1, 0);
        e.due(0, "check", 0, 1, 0, 2);
        e.due(1, "check", 1, 2, 0, 2);
        e.due(0, "prove", 0, 0);
        e.due(1, "check", 0, 1, 0, 2);
        e.due(0, "check", 1, 2, 0, 2);
    }

    @Says(part = "Promise 19", words = "comes to the bytes of a DIGEST as THE ROOT")
    static void promise19_the_bytes_of_a_DIGEST(String title) {
        Edge e = Edge.furnished(title);
        for (int digest = 0; digest <= 3; digest++) {
            e.due(digest == Edge.ROOT ? 1 : 0, "check", digest, Edge.ROOT_LEAVES, Edge.ROOT_LEAF, Edge.ROOT_LEAF);
        }
        dueSameRoot(e, 1);
        e.due(1, "check", 4, Edge.ROOT_LEAVES, Edge.ROOT_LEAF, Edge.ROOT_LEAF);
        // A digest that is no root, but has its bytes.
        e.due(2, "key");
        e.due(1, "leaf", 0, 4);
        e.due(0, "prove", 0, 0);
        byte[] root = Model.join(new byte[] {2, 1}, Model.wide(new byte[] {0, 4, 0}));
        for (int sort = 0; sort <= 2; sort++) {
            e.feedAll(root);
            e.due(5 + sort, "digest", sort);
            e.due(sort == 0 ? 1 : 0, "check", 5 + sort, 1, 0, 4);
        }
    }

    @Says(part = "Promise 19", words = "UNKNOWN (digest)")
    static void promise19_UNKNOWN_digest(String title) {
        Edge e = Edge.furnished(title);
        for (int digest : Edge.wrong(0, 3)) {
            e.due(UNKNOWN, "check", digest, Edge.ROOT_LEAVES, Edge.ROOT_LEAF, Edge.ROOT_LEAF);
        }
        dueCheck(e, 1);
        e.fillDigests(60);
        e.due(0, "check", 59, 1, 0, 0);
        e.due(UNKNOWN, "check", 60, 1, 0, 0);
    }

    @Says(part = "Promise 19", words = "OUTSIDE (n is not 1 .. 12; i; kind; more than 40 bytes)")
    static void promise19_OUTSIDE(String title) {
        Edge e = Edge.furnished(title);
        for (int n : Edge.wrong(1, 12)) {
            e.due(OUTSIDE, "check", Edge.ROOT, n, 0, 2);
        }
        for (int kind : Edge.wrong(0, 7)) {
            e.due(OUTSIDE, "check", Edge.ROOT, 5, 2, kind);
        }
        for (int n = 1; n <= 12; n++) {
            for (int i : Edge.wrong(0, n - 1)) {
                e.due(OUTSIDE, "check", Edge.ROOT, n, i, 2);
            }
            e.due(0, "check", Edge.ROOT, n, 0, 2);
            e.due(0, "check", Edge.ROOT, n, n - 1, 2);
        }
        dueCheck(e, 1);
        e.fillTape(40);
        dueCheck(e, 0);
        e.fillTape(41);
        dueCheck(e, (int) OUTSIDE);
        e.fillTape(200);
        dueCheck(e, (int) OUTSIDE);
    }

    @Says(part = "Promise 19", words = "UNKNOWN (digest), OUTSIDE (n is not 1 .. 12; i; kind; more than 40 bytes)")
    static void promise19_the_first_of_several(String title) {
        Edge e = Edge.furnished(title);
        theFirstOfCheck(e);
        e.fillTape(41);
        theFirstOfCheck(e);
        e.due(UNKNOWN, "check", 4, 5, 2, 2);
        e.due(OUTSIDE, "check", Edge.ROOT, 5, 2, 8);
    }

    private static void theFirstOfCheck(Edge e) {
        for (int digest : Edge.wrong(0, 3)) {
            e.due(UNKNOWN, "check", digest, 0, 0, 2);
            e.due(UNKNOWN, "check", digest, 13, 0, 2);
            e.due(UNKNOWN, "check", digest, 5, 5, 2);
            e.due(UNKNOWN, "check", digest, 5, -1, 2);
            e.due(UNKNOWN, "check", digest, 5, 2, 8);
            e.due(UNKNOWN, "check", digest, 13, 13, 8);
        }
        e.due(OUTSIDE, "check", Edge.ROOT, 13, 13, 2);
        e.due(OUTSIDE, "check", Edge.ROOT, 13, 0, 8);
        e.due(OUTSIDE, "check", Edge.ROOT, 5, 5, 8);
        e.due(OUTSIDE, "check", Edge.ROOT, 0, 0, -1);
    }

    private TreeEdgeTest() { }
}
