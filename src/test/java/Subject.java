import java.io.IOException;
import java.lang.reflect.InvocationTargetException;
import java.lang.reflect.Method;
import java.lang.reflect.Modifier;
import java.nio.file.Files;
import java.nio.file.Path;
import java.util.ArrayList;
import java.util.HashMap;
import java.util.List;
import java.util.Map;

/** One object of DigestTrees and what it has answered. */
final class Subject {
    static final int CALLS_MOST = 512;

    private static final int ROWS_TOLD = 12;
    private static final Map<String, Method> METHODS = methods();
    private static final List<String> LINES = lines();

    private final DigestTrees made = new DigestTrees();
    private final String title;
    private final List<Row> told = new ArrayList<>();

    private record Row(Call call, String answer) { }

    Subject(String title) {
        this.title = title;
    }

    void hold(Call call, String due) {
        String got = ask(call);
        Report.count();
        if (!got.equals(due)) {
            Report.tell(title + ": " + call + " answered " + got + ", due is " + due
                    + "; before it: " + told.subList(Math.max(0, told.size() - 1 - ROWS_TOLD), told.size() - 1));
        }
    }

    String ask(Call call) {
        String got = answer(call);
        told.add(new Row(call, got));
        if (told.size() == CALLS_MOST + 1) {
            Report.tell(title + ": the test calls one object oftener than the document promises anything");
        }
        return got;
    }

    /** A call whose answer is free, though the machine may not throw in it either. */
    void askFree(Call call) {
        answer(call);
    }

    private String answer(Call call) {
        Method method = METHODS.get(call.name());
        Object[] given = new Object[call.args().length];
        for (int i = 0; i < given.length; i++) {
            long arg = call.args()[i];
            given[i] = method.getParameterTypes()[i] == long.class ? (Object) arg : (Object) (int) arg;
        }
        try {
            return Long.toString(((Number) method.invoke(made, given)).longValue());
        } catch (InvocationTargetException e) {
            ownThrow(call, e.getCause());
            return "throws." + e.getCause().getClass().getSimpleName();
        } catch (IllegalAccessException e) {
            throw new IllegalStateException(e);
        }
    }

    /** What reaches the caller comes from a throw statement, never from the machine. */
    private void ownThrow(Call call, Throwable thrown) {
        StackTraceElement at = thrown.getStackTrace()[0];
        boolean own = "DigestTrees.java".equals(at.getFileName())
                && LINES.get(at.getLineNumber() - 1).contains("throw new " + thrown.getClass().getSimpleName());
        if (!own) {
            Report.tell(title + ": " + call + " was thrown by the machine: " + thrown + " at " + at);
        }
    }

    private static Map<String, Method> methods() {
        Map<String, Method> all = new HashMap<>();
        for (Method method : DigestTrees.class.getDeclaredMethods()) {
            if (Modifier.isPublic(method.getModifiers())) {
                all.put(method.getName(), method);
            }
        }
        return all;
    }

    static List<String> lines() {
        try {
            return Files.readAllLines(Path.of("src/main/java/DigestTrees.java"));
        } catch (IOException e) {
            throw new IllegalStateException(e);
        }
    }
}
