import java.nio.ByteBuffer;
import java.util.Arrays;

/** The rules of digests under 'Terms', each by itself as far as it can be seen from outside. */
final class DigestTermsTest {
    // The longest message of one block: its words 0 to 13, but for the last byte, are free.
    private static final int ONE_BLOCK = 55;
    private static final int[] WORDS = {1, 0x80000000, -1, 0x80000001, 0x12345678, 0xfedcba98, 0x7fffffff};

    public static void main(String[] args) {
        Sentences.run(DigestTermsTest.class);
    }

    /** A digest of one block that has this word at a place, and 0 elsewhere ahead of the padding. */
    private static void digestOfWord(Pair p, int at, int word) {
        byte[] message = new byte[ONE_BLOCK];
        ByteBuffer.wrap(message).putInt(4 * at, word);
        digestOf(p, 0, message);
    }

    private static int digestOf(Pair p, int sort, byte[] message) {
        int number = p.model.digestCount();
        p.feedAll(message);
        p.due(number, "digest", sort);
        return number;
    }

    /** A bit that is turned right stands there. */
    private static int turnedTo(int bit, int by) {
        return 1 << (bit + 32 - by) % 32;
    }

    /** A bit that is shifted right stands there, or nowhere. */
    private static int shiftedTo(int bit, int by) {
        return bit < by ? 0 : 1 << bit - by;
    }

    @Says(part = "Terms", words = "R(x, n) is x turned right by n bits, S(x, n) x shifted right, 0 from above")
    static void terms_R_and_S(String title) {
        Pair p = new Pair(title);
        // W(16) of one word at 1 is s0 of it: each bit comes to three places, the lowest ones to two.
        int[] due = {0x02000000 | 0x00004000, 0x80000000 >>> 7 | 0x80000000 >>> 18 | 0x80000000 >>> 3};
        int[] bits = {0, 31};
        for (int i = 0; i < bits.length; i++) {
            digestOfWord(p, 1, 1 << bits[i]);
            p.due(due[i], "plan", i, 16);
        }
        // All bits: two turns of them are the same and go out; from above come three 0.
        digestOfWord(p, 1, -1);
        p.due(0x1fffffff, "plan", 2, 16);
    }

    @Says(part = "Terms", words = "s0(x) being R(x, 7) xor R(x, 18) xor S(x, 3)")
    static void terms_s0(String title) {
        Pair p = new Pair(title);
        for (int bit = 0; bit < 32; bit++) {
            digestOfWord(p, 1, 1 << bit);
            p.due(turnedTo(bit, 7) ^ turnedTo(bit, 18) ^ shiftedTo(bit, 3), "plan", bit, 16);
        }
    }

    @Says(part = "Terms", words = "s1(x) R(x, 17) xor R(x, 19) xor S(x, 10)")
    static void terms_s1(String title) {
        // One word at 0 is W(16), and W(18) is s1 of it.
        Pair p = new Pair(title);
        for (int bit = 0; bit < 32; bit++) {
            digestOfWord(p, 0, 1 << bit);
            p.due(1 << bit, "plan", bit, 16);
            p.due(turnedTo(bit, 17) ^ turnedTo(bit, 19) ^ shiftedTo(bit, 10), "plan", bit, 18);
        }
        digestOfWord(p, 0, -1);
        p.due(0x003fffff, "plan", 32, 18);
    }

    @Says(part = "Terms", words = "Of a BLOCK W(0) .. W(15) are its WORDS (of 4 bytes each, the highest first)")
    static void terms_W0_to_W15(String title) {
        Pair p = new Pair(title);
        byte[] message = new byte[ONE_BLOCK];
        for (int i = 0; i < message.length; i++) {
            message[i] = (byte) (0x81 + 2 * i);
        }
        digestOf(p, 0, message);
        p.due(0x81838587, "plan", 0, 0);
        p.due(0x898b8d8f, "plan", 0, 1);
        p.due(0xe1e3e5e7, "plan", 0, 12);
        p.due(0xe9ebed80, "plan", 0, 13);
        p.due(0, "plan", 0, 14);
        p.due(8 * ONE_BLOCK, "plan", 0, 15);
        for (int t = 0; t < 13; t++) {
            p.due(0x81838587 + t * 0x08080808, "plan", 0, t);
        }
    }

    @Says(part = "Terms", words = "W(t) is s1(W(t - 2)) + W(t - 7) + s0(W(t - 15)) + W(t - 16)")
    static void terms_Wt(String title) {
        Pair p = new Pair(title);
        // A single word at 0 or at 9 is W(16) itself; one at 3 is no part of W(16), and W(18) is s0 of it.
        int number = 0;
        for (int word : WORDS) {
            digestOfWord(p, 0, word);
            p.due(word, "plan", number, 16);
            digestOfWord(p, 9, word);
            p.due(word, "plan", number + 1, 16);
            digestOfWord(p, 3, word);
            p.due(0, "plan", number + 2, 16);
            p.due(Integer.rotateRight(word, 7) ^ Integer.rotateRight(word, 18) ^ word >>> 3, "plan", number + 2, 18);
            number += 3;
        }
        Pair all = new Pair(title + ", all words");
        byte[] block = Rules.padded(Pair.bytes(ONE_BLOCK, 77));
        digestOf(all, 0, Pair.bytes(ONE_BLOCK, 77));
        for (int t = 0; t < 64; t++) {
            all.due(Rules.words(block)[t], "plan", 0, t);
        }
    }

    @Says(part = "Terms", words = "A MESSAGE (bytes) is PADDED: behind it 128, then as few 0 as may be, then how many bits it "
        + "has in 8 bytes (the highest first), so that it has BLOCKS of 64 bytes")
    static void terms_PADDED(String title) {
        for (int size : new int[] {0, 1, 2, 3, 4, 54, 55, 56, 63, 64, 100, 128, 200}) {
            for (int sort = 0; sort <= 1; sort++) {
                Pair p = new Pair(title + ", " + size + " bytes");
                byte[] message = Pair.bytes(size, 5);
                digestOf(p, sort, message);
                int blocks = (size + 8) / 64 + 1;
                p.due(blocks, "told", 0, 2);
                for (int i = 0; i < 64; i += 4) {
                    int at = 64 * (blocks - 1) + i;
                    int word = 0;
                    for (int k = at; k < at + 4; k++) {
                        word = word << 8 | paddedByte(message, k, 64 * blocks);
                    }
                    p.due(word, "plan", 0, i / 4);
                }
            }
        }
    }

    private static int paddedByte(byte[] message, int at, int all) {
        if (at < message.length) {
            return message[at] & 255;
        }
        int behind = all - 1 - at;
        return at == message.length ? 128 : behind < 8 ? (int) (8L * message.length >>> 8 * behind) & 255 : 0;
    }

    @Says(part = "Terms", words = "H0 .. H7 go on by it: a .. h are these at first; for t = 0 .. 63: "
        + "T is h + (R(e, 6) xor R(e, 11) xor R(e, 25)) + ((e and f) xor (not e and g)) + K(t) + W(t); "
        + "U is (R(a, 2) xor R(a, 13) xor R(a, 22)) + ((a and b) xor (a and c) xor (b and c)); "
        + "then h is g, g f, f e, e d + T, d c, c b, b a, a T + U; at last each of H0 .. H7 has its letter added")
    static void terms_H0_to_H7_go_on(String title) {
        for (int sort = 0; sort <= 1; sort++) {
            for (int from = 0; from <= 200; from += 15) {
                Pair p = new Pair(title + ", sort " + sort);
                for (int size = from; size < Math.min(201, from + 15); size++) {
                    byte[] message = Arrays.copyOf(Pair.bytes(200, from + sort), size);
                    p.dueBytes(Rules.of(sort, null, message), digestOf(p, sort, message));
                }
            }
        }
    }

    @Says(part = "Terms", words = "SORTS: 0 WIDE: H0 .. H7 are at first the first 32 bits behind the point of the square roots "
        + "of the first 8 primes; it is H0 .. H7 (32 bytes)")
    static void terms_WIDE(String title) {
        dueOfSort(title, 0);
    }

    @Says(part = "Terms", words = "1 NARROW: the second 32 bits (33 to 64) behind the point of those of the 9th to 16th prime; "
        + "H0 .. H6 (28 bytes)")
    static void terms_NARROW(String title) {
        dueOfSort(title, 1);
    }

    /** Each sort right behind each other one: none begins where another has left off. */
    private static void dueOfSort(String title, int sort) {
        Pair p = new Pair(title);
        for (int i = 0; i < 6; i++) {
            digestOf(p, i / 2, Pair.bytes(70 + i, i));
            byte[] message = Pair.bytes(13 * i, i);
            int number = digestOf(p, sort, message);
            p.due(sort, "told", number, 0);
            p.dueBytes(Rules.of(sort, null, message), number);
        }
    }

    @Says(part = "Terms", words = "2 KEYED, by KEY: KEY, or WIDE of it, if it has more than 64 bytes, and 0s behind up to 64, "
        + "being L: WIDE of (L, each byte xor 92, then WIDE of (L, each byte xor 54, then the MESSAGE))")
    static void terms_KEYED(String title) {
        for (int keySize : new int[] {0, 1, 32, 63, 64, 65, 131, 200}) {
            Pair p = new Pair(title + ", a key of " + keySize + " bytes");
            byte[] key = Pair.bytes(keySize, 21);
            p.feedAll(key);
            p.due(keySize, "key");
            for (int size : new int[] {0, 1, 55, 56, 64, 136}) {
                byte[] message = Pair.bytes(size, 4);
                int number = digestOf(p, 2, message);
                p.dueBytes(Rules.keyed(key, message), number);
                // Said by WIDE digests of the same object too.
                int inner = digestOf(p, 0, Model.join(Rules.locked(key, 54), message));
                byte[] wide = Rules.wide(Model.join(Rules.locked(key, 54), message));
                p.dueBytes(wide, inner);
                int outer = digestOf(p, 0, Model.join(Rules.locked(key, 92), wide));
                p.due(1, "same", number, outer);
            }
        }
    }

    private DigestTermsTest() { }
}
