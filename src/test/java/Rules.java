import java.math.BigInteger;
import java.nio.ByteBuffer;
import java.util.Arrays;

/** The digests by the document's own rules, with nothing of the library's digests. */
final class Rules {
    static final int[] K = behindThePoint(0, 64, 3, 32);

    private static final int[] WIDE_START = behindThePoint(0, 8, 2, 32);
    private static final int[] NARROW_START = behindThePoint(8, 8, 2, 64);

    static byte[] wide(byte[] message) {
        return bytes(work(WIDE_START, message), 8);
    }

    static byte[] narrow(byte[] message) {
        return bytes(work(NARROW_START, message), 7);
    }

    static byte[] keyed(byte[] key, byte[] message) {
        return wide(Model.join(locked(key, 92), wide(Model.join(locked(key, 54), message))));
    }

    static byte[] of(int sort, byte[] key, byte[] message) {
        return sort == 0 ? wide(message) : sort == 1 ? narrow(message) : keyed(key, message);
    }

    /** L, each byte xor the mask. */
    static byte[] locked(byte[] key, int mask) {
        byte[] lock = Arrays.copyOf(key.length > 64 ? wide(key) : key, 64);
        for (int i = 0; i < 64; i++) {
            lock[i] ^= (byte) mask;
        }
        return lock;
    }

    static byte[] padded(byte[] message) {
        int size = message.length + 9;
        while (size % 64 != 0) {
            size++;
        }
        byte[] all = Arrays.copyOf(message, size);
        all[message.length] = (byte) 128;
        ByteBuffer.wrap(all).putLong(size - 8, 8L * message.length);
        return all;
    }

    /** W(0) to W(63) of a block. */
    static int[] words(byte[] block) {
        int[] w = new int[64];
        for (int t = 0; t < 16; t++) {
            w[t] = ByteBuffer.wrap(block).getInt(4 * t);
        }
        for (int t = 16; t < 64; t++) {
            w[t] = s1(w[t - 2]) + w[t - 7] + s0(w[t - 15]) + w[t - 16];
        }
        return w;
    }

    private static int s0(int x) {
        return turned(x, 7) ^ turned(x, 18) ^ x >>> 3;
    }

    private static int s1(int x) {
        return turned(x, 17) ^ turned(x, 19) ^ x >>> 10;
    }

    private static int turned(int x, int n) {
        return x >>> n | x << 32 - n;
    }

    private static int[] work(int[] start, byte[] message) {
        int[] h = start.clone();
        byte[] all = padded(message);
        for (int at = 0; at < all.length; at += 64) {
            int[] letters = letters(h, words(Arrays.copyOfRange(all, at, at + 64)));
            for (int i = 0; i < 8; i++) {
                h[i] += letters[i];
            }
        }
        return h;
    }

    /** The letters a to h behind the 64 turns, which stand at 0 to 7. */
    private static int[] letters(int[] h, int[] w) {
        int[] x = h.clone();
        for (int t = 0; t < 64; t++) {
            int big = x[7] + (turned(x[4], 6) ^ turned(x[4], 11) ^ turned(x[4], 25))
                    + (x[4] & x[5] ^ ~x[4] & x[6]) + K[t] + w[t];
            int other = (turned(x[0], 2) ^ turned(x[0], 13) ^ turned(x[0], 22))
                    + (x[0] & x[1] ^ x[0] & x[2] ^ x[1] & x[2]);
            x = new int[] {big + other, x[0], x[1], x[2], x[3] + big, x[4], x[5], x[6]};
        }
        return x;
    }

    private static byte[] bytes(int[] h, int words) {
        ByteBuffer all = ByteBuffer.allocate(4 * words);
        for (int i = 0; i < words; i++) {
            all.putInt(h[i]);
        }
        return all.array();
    }

    /** Of so many primes the 32 bits that end so many bits behind the point of their roots. */
    private static int[] behindThePoint(int first, int many, int degree, int bits) {
        int[] all = new int[many];
        BigInteger prime = BigInteger.TWO;
        for (int i = 0; i < first + many; i++) {
            if (i >= first) {
                all[i - first] = root(prime.shiftLeft(degree * bits), degree).intValue();
            }
            prime = prime.nextProbablePrime();
        }
        return all;
    }

    /** The largest number whose power is not above this one. */
    private static BigInteger root(BigInteger of, int degree) {
        BigInteger low = BigInteger.ZERO;
        for (int bit = of.bitLength() / degree + 1; bit >= 0; bit--) {
            BigInteger next = low.setBit(bit);
            if (next.pow(degree).compareTo(of) <= 0) {
                low = next;
            }
        }
        return low;
    }

    private Rules() { }
}
