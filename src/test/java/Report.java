/** Counts what was asked and tells what was wrong. */
final class Report {
    private static final int TOLD_MOST = 40;
    private static int asked = 0;
    private static int wrong = 0;

    static int asked() {
        return asked;
    }

    static int wrong() {
        return wrong;
    }

    static void count() {
        asked++;
    }

    static void tell(String what) {
        wrong++;
        if (wrong <= TOLD_MOST) {
            System.out.println(what);
        }
    }

    static void expect(boolean holds, String what) {
        count();
        if (!holds) {
            tell(what);
        }
    }

    static void close() {
        System.out.println(asked + " answers looked at, " + wrong + " wrong");
        System.exit(wrong == 0 ? 0 : 1);
    }

    private Report() { }
}
