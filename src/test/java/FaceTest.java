import java.lang.reflect.Array;
import java.lang.reflect.Constructor;
import java.lang.reflect.Field;
import java.lang.reflect.Method;
import java.lang.reflect.Modifier;
import java.util.ArrayDeque;
import java.util.Arrays;
import java.util.Collections;
import java.util.Deque;
import java.util.IdentityHashMap;
import java.util.List;
import java.util.Set;
import java.util.TreeSet;
import java.util.regex.Matcher;
import java.util.regex.Pattern;

/** The class's face as the document writes it, the room that an object takes, and what a look at the source can tell. */
final class FaceTest {
    private static final Set<String> FACE = Set.of(
        "int feed(int, long)", "int key()", "int digest(int)", "int open(int, int)", "int more(int)", "int end(int)",
        "int told(int, int)", "long read(int, int, int) throws ArrayIndexOutOfBoundsException",
        "long plan(int, int) throws ArrayIndexOutOfBoundsException", "int same(int, int)",
        "int table(int) throws ArrayIndexOutOfBoundsException", "int leaf(int, int)", "int change(int, int, int)",
        "int root(int)", "int drop(int)", "int prove(int, int)", "int alter(int, int, int)",
        "int check(int, int, int, int)", "int keep()", "int find()",
        "byte row(int, int) throws NullPointerException ArrayIndexOutOfBoundsException", "int about(int)", "int clear()");

    // The room of one run: even an object for each of 512 calls must fit into it.
    private static final int ROOM_OBJECTS = 600_000, ROOM_ELEMENTS = 7_300_000, OBJECTS = 512;

    public static void main(String[] args) throws IllegalAccessException {
        face();
        inside();
        room();
        source();
        Report.close();
    }

    private static void face() throws IllegalAccessException {
        Class<?> c = DigestTrees.class;
        Report.expect(Modifier.isPublic(c.getModifiers()) && Modifier.isFinal(c.getModifiers()), "the class is public and final");
        Set<String> found = new TreeSet<>();
        for (Method method : c.getDeclaredMethods()) {
            if (!Modifier.isPrivate(method.getModifiers())) {
                found.add(written(method));
                Report.expect(Modifier.isPublic(method.getModifiers()) && !Modifier.isStatic(method.getModifiers()), method + " is public");
            }
        }
        Report.expect(found.equals(new TreeSet<>(FACE)), "the face is " + found);
        Constructor<?>[] constructors = c.getDeclaredConstructors();
        Report.expect(constructors.length == 1 && constructors[0].getParameterCount() == 0
                && Modifier.isPublic(constructors[0].getModifiers()), "one public constructor without parameters");
        StringBuilder constants = new StringBuilder();
        for (Field field : c.getDeclaredFields()) {
            boolean isConstant = Modifier.isStatic(field.getModifiers()) && Modifier.isFinal(field.getModifiers());
            if (!Modifier.isPrivate(field.getModifiers())) {
                Report.expect(isConstant && Modifier.isPublic(field.getModifiers()), field + " is a public constant");
                constants.append(field.getName()).append('=').append(field.getInt(null)).append(' ');
            }
            Report.expect(isConstant || !Modifier.isStatic(field.getModifiers()), field + " is no changing static state");
        }
        Report.expect(constants.toString().equals("NONE=-1 UNKNOWN=-101 OUTSIDE=-102 FULL=-103 STATE=-104 "), "constants: " + constants);
    }

    private static String written(Method method) {
        StringBuilder text = new StringBuilder(method.getReturnType() + " " + method.getName() + "(");
        for (Class<?> type : method.getParameterTypes()) {
            text.append(text.charAt(text.length() - 1) == '(' ? "" : ", ").append(type);
        }
        text.append(method.getExceptionTypes().length == 0 ? ")" : ") throws");
        for (Class<?> type : method.getExceptionTypes()) {
            text.append(' ').append(type.getSimpleName());
        }
        return text.toString();
    }

    private static void inside() {
        Set<String> faceNames = new TreeSet<>();
        for (String method : FACE) {
            faceNames.add(method.substring(method.indexOf(' ') + 1, method.indexOf('(')));
        }
        Class<?>[] nested = DigestTrees.class.getDeclaredClasses();
        Report.expect(nested.length < 12, "at most some twelve classes");
        for (Class<?> c : nested) {
            Report.expect(Modifier.isStatic(c.getModifiers()) && !Modifier.isPublic(c.getModifiers())
                    && !Modifier.isProtected(c.getModifiers()), c + " is static and not public");
            for (Method method : c.getDeclaredMethods()) {
                Report.expect(!faceNames.contains(method.getName()), method + " bears a public method's name");
            }
        }
        for (Method method : DigestTrees.class.getDeclaredMethods()) {
            boolean bears = Modifier.isPrivate(method.getModifiers()) && faceNames.contains(method.getName());
            Report.expect(!bears, method + " bears a public method's name");
        }
    }

    private static void room() throws IllegalAccessException {
        Set<Object> seen = Collections.newSetFromMap(new IdentityHashMap<>());
        Deque<Object> open = new ArrayDeque<>(List.of(new DigestTrees()));
        long elements = 0;
        while (!open.isEmpty()) {
            Object object = open.pop();
            if (!seen.add(object)) {
                continue;
            }
            if (object.getClass().isArray()) {
                elements += Array.getLength(object);
                if (object instanceof Object[] parts) {
                    Arrays.stream(parts).filter(part -> part != null).forEach(open::push);
                }
                continue;
            }
            for (Field field : object.getClass().getDeclaredFields()) {
                if (Modifier.isStatic(field.getModifiers())) {
                    continue;
                }
                elements++;
                field.setAccessible(true);
                Object value = field.get(object);
                if (!field.getType().isPrimitive() && value != null) {
                    open.push(value);
                }
            }
        }
        System.out.println("an object takes " + seen.size() + " objects and arrays, " + elements + " fields and elements");
        Report.expect((long) seen.size() * OBJECTS < ROOM_OBJECTS, "too many objects: " + seen.size());
        Report.expect(elements * OBJECTS < ROOM_ELEMENTS, "too many elements: " + elements);
    }

    private static void source() {
        List<String> lines = Subject.lines();
        String code = String.join("\n", lines).replaceAll("(?s)/\\*.*?\\*/", "").replaceAll("//[^\n]*", "");
        for (String word : List.of("catch", "try", "finally", "synchronized", "assert", "->", "::", "package ", "Random",
                "static {", "currentTimeMillis", "nanoTime", "getMessage", "protected ")) {
            Report.expect(!code.contains(word), "the source holds " + word);
        }
        for (String line : lines) {
            Report.expect(!line.startsWith("import ") || line.equals("import java.util.Arrays;"), "the source has " + line);
        }
        Matcher thrown = Pattern.compile("throw new (\\w+)\\((\"[^\"]*\")?\\)").matcher(code);
        int throwsFound = 0;
        while (thrown.find()) {
            throwsFound++;
            Report.expect(thrown.group(1).equals("ArrayIndexOutOfBoundsException")
                    || thrown.group(1).equals("NullPointerException"), "throws " + thrown.group(1));
        }
        Report.expect(throwsFound == 6, "six throw statements, behind a test each: " + throwsFound);
        Report.expect(code.split("throw ", -1).length == throwsFound + 1, "every throw is of a new exception with a written text");
    }

    private FaceTest() { }
}
