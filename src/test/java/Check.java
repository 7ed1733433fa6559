/** Counts what a test expects; the test's main method ends with finish(). */
final class Check {
    interface Call {
        long answer();
    }

    private static int wrong = 0;
    private static int checked = 0;

    private Check() {
    }

    static void equal(String what, long got, long due) {
        checked++;
        if (got != due) {
            wrong++;
            System.out.println(what + " answered " + got + ", due is " + due);
        }
    }

    static void equal(String what, String got, String due) {
        checked++;
        if (!got.equals(due)) {
            wrong++;
            System.out.println(what + " answered " + got + ", due is " + due);
        }
    }

    /** The answer, or the name of exactly the exception that the call throws. */
    static String outcome(Call call) {
        try {
            return String.valueOf(call.answer());
        } catch (RuntimeException e) {
            return e.getClass().getSimpleName();
        }
    }

    static void index(String what, Call call) {
        equal(what, outcome(call), "IndexOutOfBoundsException");
    }

    static void argument(String what, Call call) {
        equal(what, outcome(call), "IllegalArgumentException");
    }

    static void state(String what, Call call) {
        equal(what, outcome(call), "IllegalStateException");
    }

    static void finish() {
        System.out.println(checked + " checks, " + wrong + " wrong");
        if (wrong != 0) {
            System.exit(1);
        }
    }
}
