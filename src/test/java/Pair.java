import java.io.IOException;
import java.lang.reflect.InvocationTargetException;
import java.lang.reflect.Method;
import java.lang.reflect.Modifier;
import java.nio.file.Files;
import java.nio.file.Path;
import java.util.ArrayList;
import java.util.HashMap;
import java.util.List;
import java.util.Map;

/** An object of DigestTrees and its model, called alike; tells every answer that is not the due one. */
final class Pair {
    static final Path SOURCE = Path.of("src/main/java/DigestTrees.java");

    private static final int CALLS_MOST = 512;
    private static final Map<String, Method> METHODS = methods();
    private static final List<String> LINES = lines();
    private static int wrong = 0;
    private static int asked = 0;

    final Model model = new Model();
    private final DigestTrees made = new DigestTrees();
    private final String title;
    private final List<String> told = new ArrayList<>();

    Pair(String title) {
        this.title = title;
    }

    /** Calls both and returns the model's answer. */
    String call(String name, long... args) {
        String due = model.answer(name, args);
        hold(name, args, due);
        return due;
    }

    /** Calls both; what is due is also written out in the test. */
    void due(String want, String name, long... args) {
        String modelled = model.answer(name, args);
        if (!modelled.equals(want)) {
            tell(title + ": the test's own model answers " + modelled + " to " + row(name, args) + ", not " + want);
        }
        hold(name, args, want);
    }

    void due(long want, String name, long... args) {
        due(Long.toString(want), name, args);
    }

    /** Asks for much that can be seen without changing anything. */
    void look() {
        for (int what = 0; what <= 5; what++) {
            call("about", what);
        }
        for (int d = Math.max(0, model.digestCount() - 2); d < model.digestCount(); d++) {
            lookAt(d);
        }
        call("row", model.rowCount() - 1, 0);
        call("row", model.rowCount(), 0);
    }

    /** Asks for all bytes of a digest, and what is told of it. */
    void lookAt(int digest) {
        for (int what = 0; what <= 2; what++) {
            call("told", digest, what);
        }
        for (int i = 0; i <= 24; i += 4) {
            call("read", digest, 4, i);
        }
        call("plan", digest, 15);
        call("plan", digest, 63);
    }

    void feedAll(byte... bytes) {
        for (int i = 0; i < bytes.length; i += 8) {
            int n = Math.min(8, bytes.length - i);
            long w = 0;
            for (int k = 0; k < n; k++) {
                w = (w << 8) | (bytes[i + k] & 255);
            }
            call("feed", n, w);
        }
    }

    /** Feeds n bytes that differ from those of another seed. */
    void feedMany(int n, int seed) {
        byte[] bytes = new byte[n];
        for (int i = 0; i < n; i++) {
            bytes[i] = (byte) (seed * 57 + 31 * i + i * i);
        }
        feedAll(bytes);
    }

    private void hold(String name, long[] args, String due) {
        asked++;
        String got = ask(name, args);
        told.add(row(name, args) + " -> " + got);
        if (told.size() == CALLS_MOST + 1) {
            tell(title + ": the test calls one object oftener than the document promises anything");
        }
        if (!got.equals(due)) {
            tell(title + ": " + row(name, args) + " answered " + got + ", due is " + due
                    + "; before it: " + told.subList(Math.max(0, told.size() - 12), told.size() - 1));
        }
    }

    private String ask(String name, long[] args) {
        Method method = METHODS.get(name);
        Object[] given = new Object[args.length];
        for (int i = 0; i < args.length; i++) {
            given[i] = method.getParameterTypes()[i] == long.class ? (Object) args[i] : (Object) (int) args[i];
        }
        try {
            return Long.toString(((Number) method.invoke(made, given)).longValue());
        } catch (InvocationTargetException e) {
            ownThrow(row(name, args), e.getCause());
            return "throws." + e.getCause().getClass().getSimpleName();
        } catch (IllegalAccessException e) {
            throw new IllegalStateException(e);
        }
    }

    /** What reaches the caller comes from a throw statement, never from the machine. */
    private void ownThrow(String row, Throwable thrown) {
        StackTraceElement at = thrown.getStackTrace()[0];
        boolean own = "DigestTrees.java".equals(at.getFileName())
                && LINES.get(at.getLineNumber() - 1).contains("throw new " + thrown.getClass().getSimpleName());
        if (!own) {
            tell(title + ": " + row + " was thrown by the machine: " + thrown + " at " + at);
        }
    }

    private static String row(String name, long[] args) {
        StringBuilder text = new StringBuilder(name).append('(');
        for (int i = 0; i < args.length; i++) {
            text.append(i == 0 ? "" : ", ").append(args[i]);
        }
        return text.append(')').toString();
    }

    static void tell(String what) {
        wrong++;
        if (wrong <= 40) {
            System.out.println(what);
        }
    }

    static void expect(boolean holds, String what) {
        asked++;
        if (!holds) {
            tell(what);
        }
    }

    static void close() {
        System.out.println(asked + " answers looked at, " + wrong + " wrong");
        System.exit(wrong == 0 ? 0 : 1);
    }

    private static Map<String, Method> methods() {
        Map<String, Method> all = new HashMap<>();
        for (Method method : DigestTrees.class.getDeclaredMethods()) {
            if (Modifier.isPublic(method.getModifiers())) {
                all.put(method.getName(), method);
            }
        }
        return all;
    }

    static List<String> lines() {
        try {
            return Files.readAllLines(SOURCE);
        } catch (IOException e) {
            throw new IllegalStateException(e);
        }
    }
}
