/** Counts answers that are not as due, and ends a test with exit code 1 if there was one. */
final class Check {
    interface Call {
        long run();
    }

    private static final int SHOWN_MOST = 40;
    private static int made = 0;
    private static int wrong = 0;

    private Check() {
    }

    static void same(String what, long got, long due) {
        made++;
        if (got != due) {
            report(what + " answered " + got + ", due is " + due);
        }
    }

    static void same(String what, String got, String due) {
        made++;
        if (!got.equals(due)) {
            report(what + " was " + got + ", due is " + due);
        }
    }

    static void holds(String what, boolean condition) {
        made++;
        if (!condition) {
            report(what + " does not hold");
        }
    }

    /** What a call does, as a text: its answer, or the name of what it throws. */
    static String outcome(Call call) {
        try {
            return Long.toString(call.run());
        } catch (RuntimeException e) {
            return "throws." + e.getClass().getSimpleName();
        }
    }

    static void refused(String what, Call call, Class<? extends RuntimeException> due) {
        same(what, outcome(call), "throws." + due.getSimpleName());
    }

    static void end() {
        System.out.println(made + " checks, " + wrong + " wrong");
        if (wrong != 0 || made == 0) {
            System.exit(1);
        }
    }

    private static void report(String text) {
        wrong++;
        if (wrong <= SHOWN_MOST) {
            System.out.println(text);
        }
    }
}
