/** Compares answers with those that are due, prints each that differs, and ends a test with its exit code. */
final class Check {
    static final String ILLEGAL_ARGUMENT = "throws.IllegalArgumentException";
    static final String ILLEGAL_STATE = "throws.IllegalStateException";

    /** One call of the face. */
    interface Call {
        long answer();
    }

    private static int wrong = 0;
    private static int made = 0;

    private Check() {
    }

    static void answers(String name, Call call, long due) {
        same(name, answerOf(call), Long.toString(due));
    }

    static void illegalArgument(String name, Call call) {
        same(name, answerOf(call), ILLEGAL_ARGUMENT);
    }

    static void illegalState(String name, Call call) {
        same(name, answerOf(call), ILLEGAL_STATE);
    }

    static void same(String name, String got, String due) {
        made++;
        if (!got.equals(due)) {
            wrong++;
            System.out.println(name + " answered " + got + ", due is " + due);
        }
    }

    /** The answer as a text, an exception by its exact class: a class below the due one is wrong too. */
    static String answerOf(Call call) {
        try {
            return Long.toString(call.answer());
        } catch (RuntimeException e) {
            return "throws." + e.getClass().getSimpleName();
        }
    }

    static void end() {
        System.out.println(made + " checks, " + wrong + " wrong");
        if (wrong != 0 || made == 0) {
            System.exit(1);
        }
    }
}
