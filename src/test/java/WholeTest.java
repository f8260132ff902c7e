import java.nio.charset.StandardCharsets;
import java.util.Arrays;
import java.util.HexFormat;
import java.util.List;
import java.util.Random;

/** What stands under 'What it is' and 'Not promised': the published digests, and the class as a whole. */
final class WholeTest {
    private static final String TWO_BLOCKS = "abcdbcdecdefdefgefghfghighijhijkijkljklmklmnlmnomnopnopq";
    private static final String LONGER = "abcdefghbcdefghicdefghijdefghijkefghijklfghijklmghijklmnhijklmno"
        + "ijklmnopjklmnopqklmnopqrlmnopqrsmnopqrstnopqrstu";

    private record Published(byte[] key, byte[] message, String... digests) { }

    // The examples of FIPS 180-4: SHA-256, SHA-224.
    private static final List<Published> FIPS = List.of(
        plain("", "e3b0c44298fc1c149afbf4c8996fb92427ae41e4649b934ca495991b7852b855",
            "d14a028c2a3a2bc9476102bb288234c415a2b01f828ea62ac5b3e42f"),
        plain("abc", "ba7816bf8f01cfea414140de5dae2223b00361a396177a9cb410ff61f20015ad",
            "23097d223405d8228642a477bda255b32aadbce4bda0b3f7e36c9da7"),
        plain(TWO_BLOCKS, "248d6a61d20638b8e5c026930c3e6039a33ce45964ff2167f6ecedd419db06c1",
            "75388b16512776cc5dba5da1fd890150b0c6455cb4f58b1952522525"),
        plain(LONGER, "cf5b16a778af8380036ce59e7b0492370b249b11e8f07a51afac45037afee9d1",
            "c97ca9a559850ce97a04a96def6d99a9e0e0e2ab14e6b8df265fc0b3"));

    // The examples of RFC 4231 that are not cut short.
    private static final List<Published> RFC = List.of(
        keyed(many(20, 0x0b), text("Hi There"), "b0344c61d8db38535ca8afceaf0bf12b881dc200c9833da726e9376c2e32cff7"),
        keyed(text("Jefe"), text("what do ya want for nothing?"),
            "5bdcc146bf60754e6a042426089575c75a003f089d2739839dec58b964ec3843"),
        keyed(many(20, 0xaa), many(50, 0xdd), "773ea91e36800e46854db8ebd09181a72959098b3ef8c122d9635514ced565fe"),
        keyed(HexFormat.of().parseHex("0102030405060708090a0b0c0d0e0f10111213141516171819"), many(50, 0xcd),
            "82558a389a443c0ea4cc819899f2083a85f0faa3e578f8077a2e3ff46729665b"),
        keyed(many(131, 0xaa), text("Test Using Larger Than Block-Size Key - Hash Key First"),
            "60e431591ee0b67f0d8a26aacbf5b77f8e0bc6213728c5140546040f0ee37f54"),
        keyed(many(131, 0xaa), text("This is a test using a larger than block-size key and a larger than block-size data. "
            + "The key needs to be hashed before being used by the HMAC algorithm."),
            "9b09ffa71b942fcb27635fbcd5b0e944bfdc63644f0713938a7f51535c3a35e2"));

    public static void main(String[] args) {
        Sentences.run(WholeTest.class);
    }

    private static Published plain(String message, String wide, String narrow) {
        return new Published(new byte[0], text(message), wide, narrow);
    }

    private static Published keyed(byte[] key, byte[] message, String digest) {
        return new Published(key, message, digest);
    }

    private static byte[] text(String text) {
        return text.getBytes(StandardCharsets.ISO_8859_1);
    }

    private static byte[] many(int n, int of) {
        byte[] all = new byte[n];
        Arrays.fill(all, (byte) of);
        return all;
    }

    private static byte[] bytes(String hex) {
        return HexFormat.of().parseHex(hex);
    }

    @Says(part = "What it is", words = "Digests of FIPS 180-4, worked by their rules: whole")
    static void whatitis_digests_of_FIPS_180_4(String title) {
        Pair p = new Pair(title);
        int number = 0;
        for (Published each : FIPS) {
            for (int sort = 0; sort <= 1; sort++) {
                p.feedAll(each.message);
                p.due(number, "digest", sort);
                p.dueBytes(bytes(each.digests[sort]), number);
                number++;
            }
        }
    }

    @Says(part = "What it is", words = "in pieces, several at once")
    static void whatitis_in_pieces_several_at_once(String title) {
        for (int sort = 0; sort <= 1; sort++) {
            Pair p = new Pair(title + ", sort " + sort);
            for (int s = 0; s <= 3; s++) {
                p.due(1, "open", s, sort);
            }
            // A piece of each in turn, the pieces of no two of the same size.
            for (int turn = 0; turn < 16; turn++) {
                for (int s = 0; s <= 3; s++) {
                    byte[] all = FIPS.get(s).message;
                    int from = Math.min(all.length, turn * (7 + s));
                    int to = Math.min(all.length, (turn + 1) * (7 + s));
                    p.feedAll(Arrays.copyOfRange(all, from, to));
                    p.due(to, "more", s);
                }
            }
            for (int s = 3; s >= 0; s--) {
                p.due(3 - s, "end", s);
                p.dueBytes(bytes(FIPS.get(s).digests[sort]), 3 - s);
            }
        }
    }

    @Says(part = "What it is", words = "keyed")
    static void whatitis_keyed(String title) {
        Pair p = new Pair(title);
        int number = 0;
        for (Published each : RFC) {
            p.feedAll(each.key);
            p.due(each.key.length, "key");
            p.feedAll(each.message);
            p.due(number, "digest", 2);
            p.dueBytes(bytes(each.digests[0]), number);
            number++;
        }
    }

    @Says(part = "What it is", words = "words read out of them in all widths")
    static void whatitis_words_in_all_widths(String title) {
        byte[] abc = bytes(FIPS.get(1).digests[0]);
        Pair p = new Pair(title);
        p.feedAll(text("abc"));
        p.due(0, "digest", 0);
        for (int i = 0; i < 32; i++) {
            long word = 0;
            for (int n = 1; n <= Math.min(8, 32 - i); n++) {
                word = word << 8 | abc[i + n - 1] & 255;
                switch (n) {
                    case 1: p.due((byte) word, "read", 0, 0, i); break;
                    case 2: p.due((short) word, "read", 0, 1, i); p.due(word, "read", 0, 2, i); break;
                    case 4: p.due((int) word, "read", 0, 3, i); break;
                    case 8: p.due(word, "read", 0, 4, i); break;
                    default: break;
                }
            }
        }
    }

    @Says(part = "What it is", words = "trees of them over rows, kinds and lengths bound in, with proofs")
    static void whatitis_kinds_and_lengths_bound_in(String title) {
        Pair p = new Pair(title);
        // The same tape of each kind; then tapes of one kind that are all 0, of each length: no two roots are alike.
        for (int i = 0; i < 20; i++) {
            p.feedAll(i < 8 ? new byte[] {5, 6} : many(i - 8, 0));
            p.due(1, "leaf", 0, i < 8 ? i : 3);
            p.due(i, "root", 0);
            for (int before = 0; before < i; before++) {
                p.due(0, "same", before, i);
            }
            p.due(0, "prove", 0, 0);
            p.due(1, "drop", 0);
        }
        p.feedAll((byte) 5, (byte) 6);
        for (int kind = 0; kind < 8; kind++) {
            p.due(kind == 3 ? 1 : 0, "check", 3, 1, 0, kind);
        }
    }

    @Says(part = "What it is", words = "a store that finds rows by a few bits of theirs, and parts those that meet by looking at all")
    static void whatitis_a_store_that_parts_those_that_meet(String title) {
        Pair p = new Pair(title);
        int[] meeting = Edge.meeting(9, 40);
        for (int i = 0; i < 40; i++) {
            p.due(2, "feed", 2, meeting[i]);
            p.due(i, "keep");
        }
        p.due(780, "about", 3);
        for (int i = 39; i >= 0; i--) {
            p.due(2, "feed", 2, meeting[i]);
            p.due(i, "find");
            p.due(i + 1, "about", 4);
        }
        // What has another spot is told from all of them without a look at one.
        p.due(2, "feed", 2, Edge.meeting(8, 1)[0]);
        p.due(Edge.NONE, "find");
        p.due(0, "about", 4);
    }

    @Says(part = "What it is", words = "An object is used for at most 512 calls after it has been made")
    static void whatitis_the_512th_call(String title) {
        for (int last = 0; last <= 2; last++) {
            Pair p = new Pair(title);
            for (int made = 1; made < Subject.CALLS_MOST; made++) {
                if (made % 20 == 0) {
                    p.call("key");
                } else {
                    p.due(made % 20 * 8, "feed", 8, made * 0x9e3779b97f4a7c15L);
                }
            }
            long[] due = {11 * 8, 0, Edge.STATE};
            p.due(due[last], last == 0 ? "about" : last == 1 ? "digest" : "end", last);
        }
    }

    @Says(part = "What it is", words = "what later calls answer is free")
    static void whatitis_later_calls(String title) {
        laterCalls(title, 3000);
    }

    /** Answers are free, but each call ends, and what it throws comes from a throw statement. */
    private static void laterCalls(String title, int calls) {
        String[] names = {"feed", "key", "digest", "open", "more", "end", "told", "read", "plan", "same", "table", "leaf",
            "change", "root", "drop", "prove", "alter", "check", "keep", "find", "row", "about", "clear"};
        int[] parameters = {2, 0, 1, 2, 1, 1, 2, 3, 2, 2, 1, 2, 3, 1, 1, 2, 3, 4, 0, 0, 2, 1, 0};
        Random random = new Random(512);
        Subject subject = new Subject(title);
        for (int call = 0; call < calls; call++) {
            int which = random.nextInt(names.length - (call % 700 == 699 ? 0 : 1));
            long[] args = new long[parameters[which]];
            for (int i = 0; i < args.length; i++) {
                args[i] = random.nextInt(10) == 0 ? random.nextInt() : random.nextInt(10) - 1;
            }
            subject.askFree(new Call(names[which], args));
            Report.count();
        }
    }

    @Says(part = "Not promised", words = "How the state is held inside the object is free, as are the speed of each call, "
        + "the text of toString and the behaviour of equals and hashCode")
    static void notpromised_nothing_rests_on_it(String title) {
        String source = String.join("\n", Subject.lines());
        for (String word : List.of("toString", "equals", "hashCode", "identityHashCode", "getClass", "nanoTime")) {
            Report.expect(!source.contains(word), title + ": the class rests on " + word);
        }
    }

    @Says(part = "Not promised", words = "Use of one object from several threads at once is not promised to be safe")
    static void notpromised_objects_that_are_used_in_turn(String title) {
        String source = String.join("\n", Subject.lines());
        for (String word : List.of("Thread", "synchronized", "volatile", "concurrent")) {
            Report.expect(!source.contains(word), title + ": the class rests on " + word);
        }
        // Objects share nothing: each of several, called in turn, answers as if it were alone.
        Pair[] pairs = new Pair[4];
        for (int i = 0; i < pairs.length; i++) {
            pairs[i] = new Pair(title + ", object " + i);
        }
        for (int turn = 0; turn < 12; turn++) {
            for (int i = 0; i < pairs.length; i++) {
                step(pairs[i], turn, i);
            }
        }
        for (Pair p : pairs) {
            p.look();
        }
    }

    /** Something of each kind, other bytes for each object; a step is ended by another object's. */
    private static void step(Pair p, int turn, int object) {
        p.feedMany(30 + turn, 16 * object + turn);
        switch (turn % 12) {
            case 0: p.call("key"); break;
            case 1: p.call("open", object, 2); break;
            case 2: p.call("more", object); break;
            case 3: p.call("digest", 2); break;
            case 4: p.call("leaf", 0, object); break;
            case 5: p.call("leaf", 0, 7); break;
            case 6: p.call("prove", 0, 0); break;
            case 7: p.call("root", 0); break;
            case 8: p.call("key"); break;
            case 9: p.call("keep"); break;
            case 10: p.call("find"); break;
            default: p.call("end", object);
        }
        if (turn % 3 == 2) {
            p.look();
        }
    }

    @Says(part = "Not promised", words = "Nothing is promised beyond the answers and state changes described above, "
        + "and nothing about an object after its 512th call")
    static void notpromised_after_the_512th_call(String title) {
        laterCalls(title, Subject.CALLS_MOST * 20);
    }

    private WholeTest() { }
}
