/** Counts answers that are not due, and ends a test's main with the exit code that .ci/run looks at. */
final class Check {
    interface Call {
        Object answer();
    }

    private static final int MOST_TOLD = 100;

    private static int checked = 0;
    private static int wrong = 0;

    private Check() {
    }

    /** Returns the answer as a text, or "throws." and the name of the exception. */
    static String told(Call call) {
        try {
            return String.valueOf(call.answer());
        } catch (RuntimeException e) {
            return "throws." + e.getClass().getSimpleName();
        }
    }

    static void due(String what, Object want, Call call) {
        same(what, String.valueOf(want), told(call));
    }

    static void noSuch(String what, Call call) {
        same(what, "throws.IndexOutOfBoundsException", told(call));
    }

    static void outOfRange(String what, Call call) {
        same(what, "throws.IllegalArgumentException", told(call));
    }

    static void notNow(String what, Call call) {
        same(what, "throws.IllegalStateException", told(call));
    }

    static void same(String what, String want, String got) {
        checked++;
        if (!want.equals(got)) {
            wrong++;
            if (wrong <= MOST_TOLD) {
                System.out.println(what + " answered " + got + ", due is " + want);
            }
        }
    }

    static void end(String test) {
        System.out.println(test + ": " + checked + " checks, " + wrong + " wrong");
        if (wrong != 0 || checked == 0) {
            System.exit(1);
        }
    }
}
