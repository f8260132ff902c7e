import java.io.ByteArrayOutputStream;
import java.nio.ByteBuffer;
import java.security.GeneralSecurityException;
import java.security.MessageDigest;
import java.util.ArrayList;
import java.util.Arrays;
import java.util.List;
import javax.crypto.Mac;
import javax.crypto.spec.SecretKeySpec;

/** What the document asks, said again with the Java library's own digests and lists. */
final class Model {
    static final String BOUNDS = "throws.ArrayIndexOutOfBoundsException";
    static final String NULL = "throws.NullPointerException";

    private static final String NONE = "-1", UNKNOWN = "-101", OUTSIDE = "-102", FULL = "-103", STATE = "-104";

    record Digest(int sort, byte[] bytes, int blocks, byte[] lastBlock) { }

    record Stream(int sort, byte[] key, ByteArrayOutputStream message) { }

    record Leaf(int kind, byte[] row) { }

    private byte[] tape = {};
    private byte[] key = {};
    private final List<Digest> digests = new ArrayList<>();
    private final Stream[] streams = new Stream[4];
    private final List<List<Leaf>> trees = new ArrayList<>();
    private List<byte[]> proof = new ArrayList<>();
    private final List<byte[]> rows = new ArrayList<>();
    private int compared = 0;

    Model() {
        for (int i = 0; i < 4; i++) {
            trees.add(new ArrayList<>());
        }
    }

    List<Leaf> leaves(int tree) {
        return trees.get(tree);
    }

    int digestCount() {
        return digests.size();
    }

    int proofCount() {
        return proof.size();
    }

    int rowCount() {
        return rows.size();
    }

    String answer(Call call) {
        return answer(call.name(), call.args());
    }

    String answer(String call, long... a) {
        int x = a.length > 0 ? (int) a[0] : 0;
        int y = a.length > 1 ? (int) a[1] : 0;
        int z = a.length > 2 ? (int) a[2] : 0;
        int u = a.length > 3 ? (int) a[3] : 0;
        switch (call) {
            case "feed": return feed(x, a[1]);
            case "key": key = takeTape(); return text(key.length);
            case "digest": return digest(x);
            case "open": return open(x, y);
            case "more": return more(x);
            case "end": return end(x);
            case "told": return told(x, y);
            case "read": return read(x, y, z);
            case "plan": return plan(x, y);
            case "same": return same(x, y);
            case "table": return x < 0 || x > 63 ? BOUNDS : text(Rules.K[x]);
            case "leaf": return leaf(x, y);
            case "change": return change(x, y, z);
            case "root": return root(x);
            case "drop": return drop(x);
            case "prove": return prove(x, y);
            case "alter": return alter(x, y, z);
            case "check": return check(x, y, z, u);
            case "keep": return keep();
            case "find": return find();
            case "row": return row(x, y);
            case "about": return about(x);
            case "clear": return clear();
            default: throw new IllegalArgumentException(call);
        }
    }

    private static String text(long value) {
        return Long.toString(value);
    }

    private byte[] takeTape() {
        byte[] was = tape;
        tape = new byte[0];
        return was;
    }

    private String feed(int n, long w) {
        if (n < 1 || n > 8) return OUTSIDE;
        if (tape.length + n > 200) return FULL;
        byte[] all = ByteBuffer.allocate(8).putLong(w).array();
        tape = join(tape, Arrays.copyOfRange(all, 8 - n, 8));
        return text(tape.length);
    }

    private String digest(int sort) {
        if (sort < 0 || sort > 2) return OUTSIDE;
        if (digests.size() == 60) return FULL;
        return shelve(sort, key, takeTape());
    }

    private String open(int stream, int sort) {
        if (stream < 0 || stream > 3 || sort < 0 || sort > 2) return OUTSIDE;
        if (streams[stream] != null) return STATE;
        streams[stream] = new Stream(sort, key.clone(), new ByteArrayOutputStream());
        return "1";
    }

    private String more(int stream) {
        if (stream < 0 || stream > 3) return OUTSIDE;
        Stream s = streams[stream];
        if (s == null) return STATE;
        if (s.message.size() + tape.length > 2000) return FULL;
        s.message.writeBytes(takeTape());
        return text(s.message.size());
    }

    private String end(int stream) {
        if (stream < 0 || stream > 3) return OUTSIDE;
        Stream s = streams[stream];
        if (s == null) return STATE;
        if (digests.size() == 60) return FULL;
        streams[stream] = null;
        return shelve(s.sort, s.key, s.message.toByteArray());
    }

    private String shelve(int sort, byte[] secret, byte[] message) {
        if (sort == 2) {
            byte[] inner = join(Rules.locked(secret, 54), message);
            byte[] outer = join(Rules.locked(secret, 92), wide(inner));
            int blocks = Rules.padded(inner).length / 64 + Rules.padded(outer).length / 64
                    + (secret.length > 64 ? Rules.padded(secret).length / 64 : 0);
            digests.add(new Digest(2, hmac(secret, message), blocks, lastBlock(outer)));
        } else {
            byte[] bytes = sort == 0 ? wide(message) : library("SHA-224", message);
            digests.add(new Digest(sort, bytes, Rules.padded(message).length / 64, lastBlock(message)));
        }
        return text(digests.size() - 1);
    }

    private boolean known(int digest) {
        return digest >= 0 && digest < digests.size();
    }

    private String told(int digest, int what) {
        if (!known(digest)) return UNKNOWN;
        Digest d = digests.get(digest);
        return what == 0 ? text(d.sort) : what == 1 ? text(d.bytes.length) : what == 2 ? text(d.blocks) : OUTSIDE;
    }

    private String read(int digest, int width, int i) {
        if (!known(digest)) return UNKNOWN;
        if (width < 0 || width > 4) return OUTSIDE;
        byte[] bytes = digests.get(digest).bytes;
        int need = List.of(1, 2, 2, 4, 8).get(width);
        if (i < 0 || (long) i + need > bytes.length) return BOUNDS;
        ByteBuffer b = ByteBuffer.wrap(bytes);
        return width == 0 ? text(b.get(i)) : width == 1 ? text(b.getShort(i)) : width == 2 ? text(b.getChar(i))
                : width == 3 ? text(b.getInt(i)) : text(b.getLong(i));
    }

    private String plan(int digest, int t) {
        if (!known(digest)) return UNKNOWN;
        if (t < 0 || t > 63) return BOUNDS;
        return text(Rules.words(digests.get(digest).lastBlock)[t]);
    }

    private String same(int a, int b) {
        if (!known(a) || !known(b)) return UNKNOWN;
        return Arrays.equals(digests.get(a).bytes, digests.get(b).bytes) ? "1" : "0";
    }

    private boolean fits(int kind) {
        return kind >= 0 && kind <= 7 && tape.length <= 40;
    }

    private String leaf(int tree, int kind) {
        if (tree < 0 || tree > 3 || !fits(kind)) return OUTSIDE;
        if (trees.get(tree).size() == 12) return FULL;
        trees.get(tree).add(new Leaf(kind, takeTape()));
        return text(trees.get(tree).size());
    }

    private boolean hasLeaf(int tree, int leaf) {
        return leaf >= 0 && leaf < trees.get(tree).size();
    }

    private String change(int tree, int leaf, int kind) {
        if (tree < 0 || tree > 3) return OUTSIDE;
        if (!hasLeaf(tree, leaf)) return UNKNOWN;
        if (!fits(kind)) return OUTSIDE;
        return text(trees.get(tree).set(leaf, new Leaf(kind, takeTape())).kind);
    }

    private String root(int tree) {
        if (tree < 0 || tree > 3) return OUTSIDE;
        if (digests.size() == 60) return FULL;
        List<byte[]> level = leafDigests(tree);
        while (level.size() > 1) {
            level = above(level);
        }
        return shelve(0, null, rootMessage(trees.get(tree).size(), level.isEmpty() ? new byte[32] : level.get(0)));
    }

    private static byte[] rootMessage(int n, byte[] top) {
        return join(new byte[] {2, (byte) n}, top);
    }

    private List<byte[]> leafDigests(int tree) {
        List<byte[]> level = new ArrayList<>();
        for (Leaf leaf : trees.get(tree)) {
            level.add(leafDigest(leaf.kind, leaf.row));
        }
        return level;
    }

    private static byte[] leafDigest(int kind, byte[] row) {
        return wide(join(new byte[] {0, (byte) kind, (byte) row.length}, row));
    }

    private static byte[] pair(byte[] left, byte[] right) {
        return wide(join(new byte[] {1}, join(left, right)));
    }

    private static List<byte[]> above(List<byte[]> level) {
        List<byte[]> up = new ArrayList<>();
        for (int i = 0; i < level.size(); i += 2) {
            up.add(i + 1 < level.size() ? pair(level.get(i), level.get(i + 1)) : level.get(i));
        }
        return up;
    }

    private String drop(int tree) {
        if (tree < 0 || tree > 3) return OUTSIDE;
        int n = trees.get(tree).size();
        trees.get(tree).clear();
        return text(n);
    }

    private String prove(int tree, int leaf) {
        if (tree < 0 || tree > 3) return OUTSIDE;
        if (!hasLeaf(tree, leaf)) return UNKNOWN;
        proof = new ArrayList<>();
        List<byte[]> level = leafDigests(tree);
        for (int at = leaf; level.size() > 1; at /= 2) {
            int other = at % 2 == 0 ? at + 1 : at - 1;
            if (other < level.size()) {
                proof.add(level.get(other).clone());
            }
            level = above(level);
        }
        return text(proof.size());
    }

    private String alter(int k, int i, int mask) {
        if (k < 0 || k >= proof.size()) return UNKNOWN;
        if (i < 0 || i > 31 || mask < 0 || mask > 255) return OUTSIDE;
        proof.get(k)[i] ^= (byte) mask;
        return text(Byte.toUnsignedInt(proof.get(k)[i]));
    }

    private String check(int digest, int n, int i, int kind) {
        if (!known(digest)) return UNKNOWN;
        if (n < 1 || n > 12 || i < 0 || i >= n || !fits(kind)) return OUTSIDE;
        byte[] node = leafDigest(kind, tape);
        List<byte[]> rest = new ArrayList<>(proof);
        int at = i;
        for (int size = n; size > 1; size = size / 2 + size % 2) {
            boolean alone = at == size - 1 && size % 2 == 1;
            if (!alone) {
                if (rest.isEmpty()) return "0";
                byte[] other = rest.remove(0);
                node = at % 2 == 0 ? pair(node, other) : pair(other, node);
            }
            at /= 2;
        }
        boolean holds = rest.isEmpty() && Arrays.equals(wide(rootMessage(n, node)), digests.get(digest).bytes);
        return holds ? "1" : "0";
    }

    static int spot(byte[] row) {
        return wide(row)[31] & 15;
    }

    private String keep() {
        if (tape.length > 40) return OUTSIDE;
        int[] found = seek();
        if (found[0] < 0 && rows.size() == 40) return FULL;
        compared = found[1];
        byte[] row = takeTape();
        if (found[0] >= 0) return text(found[0]);
        rows.add(row);
        return text(rows.size() - 1);
    }

    private String find() {
        if (tape.length > 40) return OUTSIDE;
        int[] found = seek();
        compared = found[1];
        takeTape();
        return found[0] < 0 ? NONE : text(found[0]);
    }

    private int[] seek() {
        int many = 0;
        for (int i = 0; i < rows.size(); i++) {
            if (spot(rows.get(i)) == spot(tape)) {
                many++;
                if (Arrays.equals(rows.get(i), tape)) return new int[] {i, many};
            }
        }
        return new int[] {-1, many};
    }

    private String row(int row, int i) {
        if (row < 0 || row > 39) return BOUNDS;
        if (row >= rows.size()) return NULL;
        return i < 0 || i >= rows.get(row).length ? BOUNDS : text(rows.get(row)[i]);
    }

    private String about(int what) {
        switch (what) {
            case 0: return text(tape.length);
            case 1: return text(digests.size());
            case 2: return text(rows.size());
            case 3: return text(pairs());
            case 4: return text(compared);
            case 5: return "1";
            default: return OUTSIDE;
        }
    }

    private int pairs() {
        int[] many = new int[16];
        int pairs = 0;
        for (byte[] row : rows) {
            pairs += many[spot(row)]++;
        }
        return pairs;
    }

    private String clear() {
        int n = digests.size();
        takeTape();
        key = new byte[0];
        digests.clear();
        Arrays.fill(streams, null);
        trees.forEach(List::clear);
        proof = new ArrayList<>();
        rows.clear();
        compared = 0;
        return text(n);
    }

    static byte[] join(byte[] a, byte[] b) {
        byte[] all = Arrays.copyOf(a, a.length + b.length);
        System.arraycopy(b, 0, all, a.length, b.length);
        return all;
    }

    static byte[] wide(byte[] message) {
        return library("SHA-256", message);
    }

    static byte[] library(String name, byte[] message) {
        try {
            return MessageDigest.getInstance(name).digest(message);
        } catch (GeneralSecurityException e) {
            throw new IllegalStateException(e);
        }
    }

    static byte[] hmac(byte[] secret, byte[] message) {
        try {
            Mac mac = Mac.getInstance("HmacSHA256");
            // The library takes no empty key; one byte 0 is padded to the same 64.
            mac.init(new SecretKeySpec(secret.length == 0 ? new byte[1] : secret, "HmacSHA256"));
            return mac.doFinal(message);
        } catch (GeneralSecurityException e) {
            throw new IllegalStateException(e);
        }
    }

    private static byte[] lastBlock(byte[] message) {
        byte[] all = Rules.padded(message);
        return Arrays.copyOfRange(all, all.length - 64, all.length);
    }
}
