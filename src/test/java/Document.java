import java.io.IOException;
import java.nio.file.Files;
import java.nio.file.Path;
import java.util.LinkedHashMap;
import java.util.List;
import java.util.Map;

/** The document's parts by their headings, white space folded. */
final class Document {
    private static final Map<String, String> PARTS = parts();

    /** In their order, without the title. */
    static List<String> headings() {
        return PARTS.keySet().stream().filter(heading -> !heading.isEmpty()).toList();
    }

    static String part(String heading) {
        return PARTS.getOrDefault(heading, "");
    }

    /** What a promise's part says behind the method's own line. */
    static String promise(int number) {
        return part("Promise " + number).replaceFirst("^`[^`]*`: ", "");
    }

    private static Map<String, String> parts() {
        Map<String, String> parts = new LinkedHashMap<>();
        String heading = "";
        try {
            for (String line : Files.readAllLines(Path.of("../shared/DOC.md"))) {
                if (line.startsWith("## ")) {
                    heading = line.substring(3).replaceFirst(":.*", "");
                } else {
                    String before = parts.getOrDefault(heading, "");
                    parts.put(heading, (before + " " + line).replaceAll("\\s+", " ").strip());
                }
            }
        } catch (IOException e) {
            throw new IllegalStateException(e);
        }
        return parts;
    }

    private Document() { }
}
