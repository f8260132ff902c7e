import java.io.IOException;
import java.io.StringWriter;
import java.lang.reflect.Method;
import java.lang.reflect.Modifier;
import java.net.URI;
import java.net.URL;
import java.net.URLClassLoader;
import java.nio.file.Files;
import java.nio.file.Path;
import java.util.ArrayList;
import java.util.List;
import java.util.regex.Matcher;
import java.util.regex.Pattern;
import javax.tools.JavaCompiler;
import javax.tools.SimpleJavaFileObject;
import javax.tools.ToolProvider;

/** Whether the examples of README.md, compiled as they stand there, answer what the comments behind them say. */
final class ReadmeTest {
    private static final Pattern MADE = Pattern.compile("DigestTrees \\w+ = new DigestTrees\\(\\);");
    private static final Pattern CALL = Pattern.compile("(?:int (\\w+) = )?(\\w+\\.(\\w+)\\(.*\\));\\s+// (?:throws (\\w+)|([^:]+))(?:: .*)?");

    private final StringBuilder body = new StringBuilder();
    private final List<String> shown = new ArrayList<>();
    private int examples = 0;
    private int lines = 0;

    public static void main(String[] args) throws ReflectiveOperationException, IOException {
        ReadmeTest test = new ReadmeTest();
        test.readExamples();
        test.everyCallIsShown();
        test.runExamples();
        Report.close();
    }

    private void readExamples() throws IOException {
        boolean inside = false;
        for (String line : Files.readAllLines(Path.of("README.md"))) {
            if (line.startsWith("```")) {
                inside = line.equals("```java");
                body.append(inside ? "static void example" + examples++ + "() {\n" : "");
                body.append(line.equals("```") ? "}\n" : "");
            } else if (inside) {
                body.append(statement(line)).append('\n');
            }
        }
    }

    /** Every line makes an object, or is a call with what it answers. */
    private String statement(String line) {
        Matcher call = CALL.matcher(line);
        if (!call.matches()) {
            Report.expect(MADE.matcher(line).matches(), "README.md does not say what this answers: " + line);
            return line;
        }
        shown.add(call.group(3));
        lines++;
        Report.count();
        String text = '"' + line.replace("\"", "\\\"") + '"';
        if (call.group(4) != null) {
            return "try { due(" + text + ", " + call.group(2) + ", \"" + line.replaceAll(".*// |:.*", "") + "\"); } "
                + "catch (" + call.group(4) + " e) { asked++; }";
        }
        String named = call.group(1) == null ? "" : "int " + call.group(1) + " = " + call.group(2) + "; ";
        String got = call.group(1) == null ? call.group(2) : call.group(1);
        return named + "due(" + text + ", " + got + ", Long.toString(" + call.group(5) + "));";
    }

    private void everyCallIsShown() {
        for (Method method : DigestTrees.class.getDeclaredMethods()) {
            boolean has = !Modifier.isPublic(method.getModifiers()) || shown.contains(method.getName());
            Report.expect(has, "README.md shows no call of " + method.getName());
        }
    }

    private void runExamples() throws ReflectiveOperationException, IOException {
        Path classes = Files.createTempDirectory("readme");
        compile(classes);
        try (URLClassLoader loader = new URLClassLoader(new URL[] {classes.toUri().toURL()})) {
            Class<?> made = loader.loadClass("ReadmeExamples");
            for (int i = 0; i < examples; i++) {
                Method example = made.getDeclaredMethod("example" + i);
                example.setAccessible(true);
                example.invoke(null);
            }
            made.getField("wrong").get(null).toString().lines().forEach(Report::tell);
            Report.expect(made.getField("asked").getInt(null) == lines, "not every line of the examples was asked");
        } finally {
            Files.deleteIfExists(classes.resolve("ReadmeExamples.class"));
            Files.delete(classes);
        }
    }

    private void compile(Path classes) {
        String source = "public final class ReadmeExamples {\n"
            + "public static final StringBuilder wrong = new StringBuilder();\n"
            + "public static int asked = 0;\n"
            + "private static void due(String line, long got, String want) {\n"
            + "asked++;\n"
            + "if (!want.equals(Long.toString(got))) { wrong.append(\"README.md: \" + line + \" answers \" + got + \"\\n\"); }\n"
            + "}\n" + body + "}\n";
        SimpleJavaFileObject file = new SimpleJavaFileObject(URI.create("string:///ReadmeExamples.java"), SimpleJavaFileObject.Kind.SOURCE) {
            @Override
            public CharSequence getCharContent(boolean ignoreEncodingErrors) {
                return source;
            }
        };
        StringWriter told = new StringWriter();
        JavaCompiler compiler = ToolProvider.getSystemJavaCompiler();
        List<String> options = List.of("-d", classes.toString(), "-cp", System.getProperty("java.class.path"));
        Report.expect(compiler.getTask(told, null, null, options, null, List.of(file)).call(), "README.md's examples: " + told);
    }

    private ReadmeTest() { }
}
