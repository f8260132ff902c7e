import java.util.ArrayList;
import java.util.List;
import java.util.regex.Matcher;
import java.util.regex.Pattern;
import java.util.stream.Stream;

/** Whether the tests' words stand in the document, and whether each word of the document and each boundary has a test. */
final class SentenceTest {
    private static final List<Class<?>> EDGES =
        List.of(TermsEdgeTest.class, DigestEdgeTest.class, TreeEdgeTest.class, StoreEdgeTest.class);
    private static final List<Class<?>> OTHERS =
        List.of(WholeTest.class, FaceTest.class, DigestTermsTest.class, TreeTermsTest.class, ChangeTest.class);
    private static final int PROMISES = 24;

    // What a promise names as a boundary: its refusals, its exceptions, its numbers from .. to.
    private static final Pattern BOUNDARY =
        Pattern.compile("OUTSIDE|UNKNOWN|FULL|STATE|NONE|\\w+Exception|\\d+ \\.\\. \\d+|more than \\d+|\\d+ are");

    private static final List<String> TERMS = List.of("sums go round", "as few 0 as may be",
        "KEY, or WIDE of it, if it has more than 64 bytes", "DIGESTS are kept as they come, by numbers from 0 on, 60 at most",
        "STREAMS 0 .. 3", "LEAVES, 12 at most: a kind 0 .. 7 and up to 40 bytes", "a last one alone goes up as it is",
        "of no LEAVES 32 bytes 0", "none, where it went up alone", "ROWS, 40 at most, of up to 40 bytes each, no two alike",
        "THE TAPE has up to 200 bytes", "of several the first one that the call tells",
        "They change nothing; nor does what throws");

    // What only parts the text.
    private static final Pattern MARKS = Pattern.compile("==== 1 DIGESTS|==== [23]|```text");

    private final List<Sentences.Test> tests = new ArrayList<>();

    private SentenceTest(List<Class<?>> classes) {
        classes.forEach(c -> tests.addAll(Sentences.of(c)));
    }

    public static void main(String[] args) {
        SentenceTest all = new SentenceTest(Stream.concat(EDGES.stream(), OTHERS.stream()).toList());
        all.wordsStandInTheDocument();
        // FaceTest takes the face from the document itself, so none of its words can be left out there.
        Document.headings().stream().filter(part -> !part.equals("The public face")).forEach(all::everyWordHasTest);
        new SentenceTest(EDGES).everyBoundaryHasTest();
        Report.close();
    }

    private void everyBoundaryHasTest() {
        TERMS.forEach(words -> hasTest("Terms", Document.part("Terms").indexOf(words), words));
        for (int number = 1; number <= PROMISES; number++) {
            everyBoundaryHasTest(number);
        }
    }

    /** What stands in no test's words is told. */
    private void everyWordHasTest(String part) {
        StringBuilder left = new StringBuilder(textOf(part));
        MARKS.matcher(left.toString()).results().forEach(mark -> blank(left, mark.start(), mark.end()));
        tests.stream().filter(test -> test.part().equals(part) && at(test) >= 0)
            .forEach(test -> blank(left, at(test), at(test) + test.words().length()));
        Matcher untested = Pattern.compile("\\w+").matcher(left);
        Report.expect(!untested.find(), part + " has words without a test: " + left.toString().replaceAll(" +", " "));
    }

    private static void blank(StringBuilder text, int from, int to) {
        text.replace(from, to, " ".repeat(to - from));
    }

    private void wordsStandInTheDocument() {
        for (Sentences.Test test : tests) {
            Report.expect(at(test) >= 0, test.title() + " does not stand under " + test.part());
            Report.expect(test.method().getName().startsWith(test.prefix()), test.title() + " is named for another part");
        }
    }

    private static String textOf(String part) {
        return part.startsWith("Promise ") ? Document.promise(Integer.parseInt(part.substring(8))) : Document.part(part);
    }

    private static int at(Sentences.Test test) {
        return textOf(test.part()).indexOf(test.words());
    }

    private void everyBoundaryHasTest(int number) {
        String part = "Promise " + number;
        Report.expect(tests.stream().anyMatch(test -> test.part().equals(part)), part + " has no test");
        Matcher boundary = BOUNDARY.matcher(textOf(part));
        while (boundary.find()) {
            hasTest(part, boundary.start(), boundary.group());
        }
    }

    /** Some test's words hold what stands there. */
    private void hasTest(String part, int start, String words) {
        boolean has = start >= 0 && tests.stream().anyMatch(test -> test.part().equals(part)
                && at(test) <= start && at(test) + test.words().length() >= start + words.length());
        Report.expect(has, part + " has no test of its own for \"" + words + "\" at " + start);
    }
}
