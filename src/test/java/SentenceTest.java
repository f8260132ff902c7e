import java.util.ArrayList;
import java.util.List;
import java.util.regex.Matcher;
import java.util.regex.Pattern;

/** Whether the edge tests' words stand in the document, and whether each boundary that it names has a test. */
final class SentenceTest {
    private static final List<Class<?>> CLASSES =
        List.of(TermsEdgeTest.class, DigestEdgeTest.class, TreeEdgeTest.class, StoreEdgeTest.class);
    private static final int PROMISES = 24;

    // What a promise names as a boundary: its refusals, its exceptions, its numbers from .. to.
    private static final Pattern BOUNDARY =
        Pattern.compile("OUTSIDE|UNKNOWN|FULL|STATE|NONE|\\w+Exception|\\d+ \\.\\. \\d+|more than \\d+|\\d+ are");

    private static final List<String> TERMS = List.of("sums go round", "as few 0 as may be",
        "KEY, or WIDE of it, if it has more than 64 bytes", "DIGESTS are kept as they come, by numbers from 0 on, 60 at most",
        "STREAMS 0 .. 3", "LEAVES, 12 at most: a kind 0 .. 7 and up to 40 bytes", "a last one alone goes up as it is",
        "of no LEAVES 32 bytes 0", "none, where it went up alone", "ROWS, 40 at most, of up to 40 bytes each, no two alike",
        "THE TAPE has up to 200 bytes", "of several the first one that the call tells",
        "They change nothing; nor does what throws");

    private final List<Sentences.Test> tests = new ArrayList<>();

    public static void main(String[] args) {
        SentenceTest all = new SentenceTest();
        CLASSES.forEach(c -> all.tests.addAll(Sentences.of(c)));
        all.wordsStandInTheDocument();
        TERMS.forEach(words -> all.hasTest("Terms", Document.part("Terms").indexOf(words), words));
        for (int number = 1; number <= PROMISES; number++) {
            all.everyBoundaryHasTest(number);
        }
        Report.close();
    }

    private void wordsStandInTheDocument() {
        for (Sentences.Test test : tests) {
            Report.expect(at(test) >= 0, test.title() + " does not stand under " + test.part());
            Report.expect(test.method().getName().startsWith(test.prefix()), test.title() + " is named for another part");
        }
    }

    private static String textOf(String part) {
        return part.startsWith("Promise ") ? Document.promise(Integer.parseInt(part.substring(8))) : Document.part(part);
    }

    private static int at(Sentences.Test test) {
        return textOf(test.part()).indexOf(test.words());
    }

    private void everyBoundaryHasTest(int number) {
        String part = "Promise " + number;
        Report.expect(tests.stream().anyMatch(test -> test.part().equals(part)), part + " has no test");
        Matcher boundary = BOUNDARY.matcher(textOf(part));
        while (boundary.find()) {
            hasTest(part, boundary.start(), boundary.group());
        }
    }

    /** Some test's words hold what stands there. */
    private void hasTest(String part, int start, String words) {
        boolean has = start >= 0 && tests.stream().anyMatch(test -> test.part().equals(part)
                && at(test) <= start && at(test) + test.words().length() >= start + words.length());
        Report.expect(has, part + " has no test of its own for \"" + words + "\" at " + start);
    }

    private SentenceTest() { }
}
