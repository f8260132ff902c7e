import java.nio.ByteBuffer;

/** An object of DigestTrees and its model, called alike; tells every answer that is not the due one. */
class Pair {
    final Model model = new Model();
    final String title;
    private final Subject made;

    Pair(String title) {
        this.title = title;
        made = new Subject(title);
    }

    /** Calls both and returns the model's answer. */
    String call(String name, long... args) {
        String due = model.answer(name, args);
        made.hold(new Call(name, args), due);
        return due;
    }

    /** Calls both; what is due is also written out in the test. */
    final void due(String want, String name, long... args) {
        String modelled = call(name, args);
        Report.expect(modelled.equals(want), title + ": the test's own model answers " + modelled + " to "
                + new Call(name, args) + ", not " + want);
    }

    final void due(long want, String name, long... args) {
        due(Long.toString(want), name, args);
    }

    /** Asks for much that can be seen without changing anything. */
    final void look() {
        for (int what = 0; what <= 5; what++) {
            call("about", what);
        }
        for (int d = Math.max(0, model.digestCount() - 2); d < model.digestCount(); d++) {
            lookAt(d);
        }
        call("row", model.rowCount() - 1, 0);
        call("row", model.rowCount(), 0);
    }

    /** Asks for all bytes of a digest, and what is told of it. */
    final void lookAt(int digest) {
        for (int what = 0; what <= 2; what++) {
            call("told", digest, what);
        }
        for (int i = 0; i <= 24; i += 4) {
            call("read", digest, 4, i);
        }
        call("plan", digest, 15);
        call("plan", digest, 63);
    }

    /** That a digest has these bytes, and no more. */
    final void dueBytes(byte[] want, int digest) {
        ByteBuffer bytes = ByteBuffer.wrap(want);
        due(want.length, "told", digest, 1);
        for (int i = 0; i + 8 < want.length; i += 8) {
            due(bytes.getLong(i), "read", digest, 4, i);
        }
        due(bytes.getLong(want.length - 8), "read", digest, 4, want.length - 8);
    }

    /** That what is k-th in the proof has these bytes. */
    final void dueBeside(byte[] want, int k) {
        for (int i = 0; i < want.length; i++) {
            due(want[i] & 255, "alter", k, i, 0);
        }
    }

    final void feedAll(byte... bytes) {
        for (int i = 0; i < bytes.length; i += 8) {
            int n = Math.min(8, bytes.length - i);
            long w = 0;
            for (int k = 0; k < n; k++) {
                w = (w << 8) | (bytes[i + k] & 255);
            }
            call("feed", n, w);
        }
    }

    final void feedMany(int n, int seed) {
        feedAll(bytes(n, seed));
    }

    /** Bytes that differ from those of another seed. */
    static byte[] bytes(int n, int seed) {
        byte[] bytes = new byte[n];
        for (int i = 0; i < n; i++) {
            bytes[i] = (byte) (seed * 57 + 31 * i + i * i);
        }
        return bytes;
    }
}
