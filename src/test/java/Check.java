/** Counts and prints the answers that are not due. */
final class Check {
    static final String ARGUMENT = "IllegalArgumentException";
    static final String STATE = "IllegalStateException";
    static final String INDEX = "IndexOutOfBoundsException";

    private static int wrong = 0;

    /** A call whose answer, or the exception that it throws, is looked at. */
    interface Call {
        Object answer();
    }

    private Check() {
    }

    static void due(String what, Object want, Object got) {
        if (!want.equals(got)) {
            wrong++;
            if (wrong <= 50) {
                System.out.println(what + " answered " + got + ", due is " + want);
            }
        }
    }

    static void due(String what, Object want, Call call) {
        due(what, want, outcome(call));
    }

    /** The throw is due, and the object is to be as it was before. */
    static void refused(ShutterRinging x, String what, String exception, Call call) {
        long before = x.digest();
        int reachedBefore = x.reach();
        due(what, "throws " + exception, outcome(call));
        due("digest() after the refused " + what, before, x.digest());
        due("reach() after the refused " + what, reachedBefore, x.reach());
    }

    static Object outcome(Call call) {
        try {
            return call.answer();
        } catch (RuntimeException e) {
            return "throws " + e.getClass().getSimpleName();
        }
    }

    static void end() {
        System.out.println(wrong == 0 ? "all answers are as due" : wrong + " answers are not as due");
        if (wrong != 0) {
            System.exit(1);
        }
    }
}
