import java.lang.reflect.Array;
import java.lang.reflect.Constructor;
import java.lang.reflect.Field;
import java.lang.reflect.Method;
import java.lang.reflect.Modifier;
import java.util.ArrayDeque;
import java.util.ArrayList;
import java.util.Arrays;
import java.util.Collections;
import java.util.Deque;
import java.util.IdentityHashMap;
import java.util.LinkedHashMap;
import java.util.List;
import java.util.Map;
import java.util.Set;
import java.util.TreeSet;
import java.util.regex.Matcher;
import java.util.regex.Pattern;

/** The class's face as the document writes it, the room that an object takes, and what a look at the source can tell. */
final class FaceTest {
    private static final List<String> FACE = declared();
    private static final Pattern PUBLIC = Pattern.compile("^    (public .*?)( \\{|;)$");

    private static final Pattern METHOD =
        Pattern.compile("( {4}| {8})(?=\\S)(?!for|if|while|do|switch|\\}).*\\) (throws .*)?\\{");

    // What the class may take from the library, and the one static function of its own that it calls by its class.
    private static final Set<String> CALLED = Set.of("System.arraycopy", "Arrays.fill", "Integer.rotateRight", "Proof.due");

    // The room of one run: even an object for each of 512 calls must fit into it.
    private static final int ROOM_OBJECTS = 600_000, ROOM_ELEMENTS = 7_300_000, OBJECTS = 512;

    public static void main(String[] args) throws IllegalAccessException {
        inside();
        limits();
        room();
        source();
        Sentences.run(FaceTest.class);
    }

    /** What the document's face declares in the class, as it is written there. */
    private static List<String> declared() {
        String face = Document.part("The public face");
        String body = face.substring(face.indexOf('{') + 1, face.lastIndexOf('}'));
        return Arrays.stream(body.split(";")).map(String::strip).filter(line -> !line.isEmpty()).toList();
    }

    private static String nameOf(String declaration) {
        return declaration.replaceFirst("\\(.*", "").replaceFirst(".* ", "");
    }

    /** The names of the methods that the document declares. */
    private static Set<String> faceNames() {
        Set<String> names = new TreeSet<>();
        for (String line : FACE) {
            if (line.contains("(") && !line.equals("public DigestTrees()")) {
                names.add(nameOf(line));
            }
        }
        return names;
    }

    @Says(part = "The public face", words = "public final class DigestTrees {")
    static void thepublicface_as_it_is_written(String title) {
        List<String> written = new ArrayList<>();
        int publicWords = 0;
        for (String line : Subject.lines()) {
            Matcher matcher = PUBLIC.matcher(line);
            if (matcher.find()) {
                written.add(matcher.group(1));
            }
            publicWords += line.split("\\bpublic\\b", -1).length - 1;
        }
        Report.expect(written.equals(FACE), title + ": the class declares " + written + ", the document " + FACE);
        Report.expect(publicWords == FACE.size() + 1, title + ": something else is public");
        Report.expect(Subject.lines().contains("public final class DigestTrees {"), title + ": the class's own line");
    }

    @Says(part = "The public face", words = "public DigestTrees()")
    static void thepublicface_no_member_beside_these(String title) {
        Class<?> c = DigestTrees.class;
        Report.expect(c.getModifiers() == (Modifier.PUBLIC | Modifier.FINAL), title + ": the class is public and final");
        Set<String> found = new TreeSet<>();
        for (Method method : c.getDeclaredMethods()) {
            if (!Modifier.isPrivate(method.getModifiers())) {
                found.add(written(method));
            }
        }
        Set<String> due = new TreeSet<>(FACE.subList(2, FACE.size()).stream().map(FaceTest::withoutNames).toList());
        Report.expect(found.equals(due), title + ": the methods are " + found + ", due are " + due);
        Constructor<?>[] constructors = c.getDeclaredConstructors();
        Report.expect(constructors.length == 1 && constructors[0].toString().equals("public DigestTrees()"),
            title + ": the constructors are " + Arrays.toString(constructors));
        Report.expect(c.getSuperclass() == Object.class && c.getInterfaces().length == 0, title + ": it stands alone");
    }

    @Says(part = "The public face", words = "public static final int NONE = -1, UNKNOWN = -101, OUTSIDE = -102, FULL = -103, STATE = -104")
    static void thepublicface_constants(String title) throws IllegalAccessException {
        StringBuilder constants = new StringBuilder();
        for (Field field : DigestTrees.class.getDeclaredFields()) {
            int modifiers = field.getModifiers();
            if (!Modifier.isPrivate(modifiers)) {
                Report.expect(modifiers == (Modifier.PUBLIC | Modifier.STATIC | Modifier.FINAL), title + ": " + field);
                constants.append(constants.isEmpty() ? "" : ", ").append(field.getName()).append(" = ").append(field.getInt(null));
            }
            Report.expect(Modifier.isFinal(modifiers) || !Modifier.isStatic(modifiers), title + ": " + field + " may change");
        }
        Report.expect(FACE.get(0).equals("public static final int " + constants), title + ": " + constants);
    }

    @Says(part = "Terms", words = "Ahead of the calls `digest`, `open`, `more`, `end`, `told`, `read`, `plan`, `same`, `table` the "
        + "interface says: ---- digests, streams. Ahead of the calls `leaf`, `change`, `root`, `drop`, `prove`, `alter`, `check` the "
        + "interface says: ---- trees. Ahead of the calls `keep`, `find`, `row`, `about`, `clear` the interface says: ---- the store")
    static void terms_what_the_interface_says(String title) {
        Map<String, List<String>> written = new LinkedHashMap<>();
        String mark = "";
        for (String line : Subject.lines()) {
            Matcher matcher = PUBLIC.matcher(line);
            if (line.startsWith("    // ----")) {
                mark = line.substring(7);
            } else if (matcher.find() && !mark.isEmpty()) {
                written.computeIfAbsent(mark, key -> new ArrayList<>()).add("`" + nameOf(matcher.group(1)) + "`");
            }
        }
        Matcher said = Pattern.compile("Ahead of the calls ([^.]*) the interface says: (---- [^.]*)\\.").matcher(Document.part("Terms"));
        int marks = 0;
        while (said.find()) {
            marks++;
            String names = String.join(", ", written.getOrDefault(said.group(2), List.of()));
            Report.expect(names.equals(said.group(1)), title + ": behind " + said.group(2) + " stand " + names);
        }
        Report.expect(marks == 3 && written.size() == 3, title + ": three marks, not " + written.keySet());
    }

    /** A declaration as written() says it: without public, without the parameters' names. */
    private static String withoutNames(String declaration) {
        return declaration.replaceFirst("public ", "").replaceAll("(int|long) \\w+([,)])", "$1$2").replace("n, A", "n A");
    }

    private static String written(Method method) {
        StringBuilder text = new StringBuilder(method.getReturnType() + " " + method.getName() + "(");
        for (Class<?> type : method.getParameterTypes()) {
            text.append(text.charAt(text.length() - 1) == '(' ? "" : ", ").append(type);
        }
        text.append(method.getExceptionTypes().length == 0 ? ")" : ") throws");
        for (Class<?> type : method.getExceptionTypes()) {
            text.append(' ').append(type.getSimpleName());
        }
        return text.toString();
    }

    private static void inside() {
        Set<String> faceNames = faceNames();
        Class<?>[] nested = DigestTrees.class.getDeclaredClasses();
        Report.expect(nested.length < 12, "at most some twelve classes");
        for (Class<?> c : nested) {
            Report.expect(Modifier.isStatic(c.getModifiers()) && !Modifier.isPublic(c.getModifiers())
                    && !Modifier.isProtected(c.getModifiers()), c + " is static and not public");
            for (Method method : c.getDeclaredMethods()) {
                Report.expect(!faceNames.contains(method.getName()), method + " bears a public method's name");
            }
        }
        for (Method method : DigestTrees.class.getDeclaredMethods()) {
            boolean bears = Modifier.isPrivate(method.getModifiers()) && faceNames.contains(method.getName());
            Report.expect(!bears, method + " bears a public method's name");
        }
    }

    /** Rule 11: parameters, fields, lines. */
    private static void limits() {
        List<Class<?>> classes = new ArrayList<>(List.of(DigestTrees.class.getDeclaredClasses()));
        classes.add(DigestTrees.class);
        for (Class<?> c : classes) {
            long fields = Arrays.stream(c.getDeclaredFields()).filter(f -> !Modifier.isStatic(f.getModifiers())).count();
            Report.expect(fields <= 20, c + " has " + fields + " fields");
            for (Method method : c.getDeclaredMethods()) {
                Report.expect(method.getParameterCount() <= 7, method + " has too many parameters");
            }
        }
        List<String> lines = Subject.lines();
        for (int i = 0; i < lines.size(); i++) {
            Matcher begins = METHOD.matcher(lines.get(i));
            if (begins.matches()) {
                int ends = i + lines.subList(i, lines.size()).indexOf(begins.group(1) + "}");
                Report.expect(ends > i && ends - i < 60, "the method at line " + (i + 1) + " is long");
            }
        }
    }

    private static void room() throws IllegalAccessException {
        Set<Object> seen = Collections.newSetFromMap(new IdentityHashMap<>());
        Deque<Object> open = new ArrayDeque<>(List.of(new DigestTrees()));
        long elements = 0;
        while (!open.isEmpty()) {
            Object object = open.pop();
            if (!seen.add(object)) {
                continue;
            }
            if (object.getClass().isArray()) {
                elements += Array.getLength(object);
                if (object instanceof Object[] parts) {
                    Arrays.stream(parts).filter(part -> part != null).forEach(open::push);
                }
                continue;
            }
            for (Field field : object.getClass().getDeclaredFields()) {
                if (Modifier.isStatic(field.getModifiers())) {
                    continue;
                }
                elements++;
                field.setAccessible(true);
                Object value = field.get(object);
                if (!field.getType().isPrimitive() && value != null) {
                    open.push(value);
                }
            }
        }
        System.out.println("an object takes " + seen.size() + " objects and arrays, " + elements + " fields and elements");
        Report.expect((long) seen.size() * OBJECTS < ROOM_OBJECTS, "too many objects: " + seen.size());
        Report.expect(elements * OBJECTS < ROOM_ELEMENTS, "too many elements: " + elements);
    }

    private static void source() {
        List<String> lines = Subject.lines();
        String code = String.join("\n", lines).replaceAll("(?s)/\\*.*?\\*/", "").replaceAll("//[^\n]*", "");
        for (String word : List.of("catch", "try", "finally", "synchronized", "assert", "->", "::", "package ", "Random",
                "static {", "currentTimeMillis", "nanoTime", "getMessage", "protected ")) {
            Report.expect(!code.contains(word), "the source holds " + word);
        }
        for (String line : lines) {
            Report.expect(!line.startsWith("import ") || line.equals("import java.util.Arrays;"), "the source has " + line);
        }
        Matcher called = Pattern.compile("\\b[A-Z]\\w*\\.[a-z]\\w*(?=\\()").matcher(code);
        while (called.find()) {
            Report.expect(CALLED.contains(called.group()), "the source calls " + called.group());
        }
        Matcher thrown = Pattern.compile("throw new (\\w+)\\((\"[^\"]*\")?\\)").matcher(code);
        int throwsFound = 0;
        while (thrown.find()) {
            throwsFound++;
            Report.expect(thrown.group(1).equals("ArrayIndexOutOfBoundsException")
                    || thrown.group(1).equals("NullPointerException"), "throws " + thrown.group(1));
        }
        Report.expect(throwsFound == 6, "six throw statements, behind a test each: " + throwsFound);
        Report.expect(code.split("throw ", -1).length == throwsFound + 1, "every throw is of a new exception with a written text");
    }

    private FaceTest() { }
}
