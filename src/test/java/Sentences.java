import java.lang.reflect.InvocationTargetException;
import java.lang.reflect.Method;
import java.util.ArrayList;
import java.util.Comparator;
import java.util.List;

/** Runs the tests of a class that say which words of the document they are of. */
final class Sentences {
    record Test(Method method, String part, String words) {
        /** The promise's number and the sentence's words. */
        String title() {
            return method.getName() + ": \"" + words + "\"";
        }

        /** Promise 7 makes promise7_. */
        String prefix() {
            return part.toLowerCase().replace(" ", "") + "_";
        }
    }

    static void run(Class<?> tests) {
        for (Test test : of(tests)) {
            int asked = Report.asked();
            int wrong = Report.wrong();
            invoke(test);
            Report.expect(Report.asked() > asked, test.title() + ": the test asks nothing");
            System.out.println((Report.wrong() == wrong ? "ok     " : "WRONG  ") + test.title());
        }
        Report.close();
    }

    static List<Test> of(Class<?> tests) {
        List<Test> all = new ArrayList<>();
        for (Method method : tests.getDeclaredMethods()) {
            Says says = method.getAnnotation(Says.class);
            if (says != null) {
                all.add(new Test(method, says.part(), says.words()));
            }
        }
        all.sort(Comparator.comparing((Test test) -> test.part.length()).thenComparing(Test::part)
                .thenComparing(test -> test.method.getName()));
        return all;
    }

    private static void invoke(Test test) {
        try {
            test.method.invoke(null, test.title());
        } catch (InvocationTargetException e) {
            Report.tell(test.title() + ": the test itself ended by " + e.getCause());
        } catch (IllegalAccessException e) {
            throw new IllegalStateException(e);
        }
    }

    private Sentences() { }
}
