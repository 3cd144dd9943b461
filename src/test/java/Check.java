/** Compares answers with those that are due, prints each that differs, and ends a test with its exit code. */
final class Check {
    static final String ILLEGAL_ARGUMENT = "throws.IllegalArgumentException";
    static final String ILLEGAL_STATE = "throws.IllegalStateException";

    /** One call of the face. */
    interface Call {
        long answer();
    }

    /** A call whose last argument is the part of a fraction. */
    interface Parts {
        long answer(int part);
    }

    /** Makes a new object in a certain state. */
    interface Maker {
        RoundTrips house();
    }

    /** A call of the face on an object that is made later. */
    interface Asked {
        long of(RoundTrips x);
    }

    private static String sentence = "";
    private static int madeBefore = 0;
    private static int wrong = 0;
    private static int made = 0;

    private Check() {
    }

    /** The document's words that the checks from here on are for; a wrong answer is printed with them. */
    static void sentence(String words) {
        endSentence();
        sentence = words;
        madeBefore = made;
    }

    static void answers(String name, Call call, long due) {
        same(name, answerOf(call), Long.toString(due));
    }

    static void illegalArgument(String name, Call call) {
        same(name, answerOf(call), ILLEGAL_ARGUMENT);
    }

    static void illegalState(String name, Call call) {
        same(name, answerOf(call), ILLEGAL_STATE);
    }

    static void fraction(String name, Parts call, long above, long below) {
        answers(name + ", above", () -> call.answer(0), above);
        answers(name + ", below", () -> call.answer(1), below);
    }

    /** The call throws, and behind it all calls answer as on an object at which it has not been made. */
    static void refusedArgument(String name, Maker maker, Asked asked) {
        refused(name, maker, asked, ILLEGAL_ARGUMENT);
    }

    /** As refusedArgument(), for the other exception. */
    static void refusedState(String name, Maker maker, Asked asked) {
        refused(name, maker, asked, ILLEGAL_STATE);
    }

    private static void refused(String name, Maker maker, Asked asked, String due) {
        RoundTrips x = maker.house();
        same(name, answerOf(() -> asked.of(x)), due);
        same(name + ", later calls", Probe.answersOf(x), Probe.answersOf(maker.house()));
    }

    static void same(String name, String got, String due) {
        made++;
        if (!got.equals(due)) {
            wrong++;
            String where = sentence.isEmpty() ? "" : "\"" + sentence + "\": ";
            System.out.println(where + name + " answered " + got + ", due is " + due);
        }
    }

    /** The answer as a text, an exception by its exact class: a class below the due one is wrong too. */
    static String answerOf(Call call) {
        try {
            return Long.toString(call.answer());
        } catch (RuntimeException e) {
            return "throws." + e.getClass().getSimpleName();
        }
    }

    static void end() {
        endSentence();
        System.out.println(made + " checks, " + wrong + " wrong");
        if (wrong != 0 || made == 0) {
            System.exit(1);
        }
    }

    private static void endSentence() {
        if (!sentence.isEmpty() && made == madeBefore) {
            wrong++;
            System.out.println("\"" + sentence + "\": there is no check of it");
        }
    }
}
