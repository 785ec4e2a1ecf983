/** What the tests share: answers that are due, the classes of what is thrown, and a test's end. */
final class Check {
    static final Class<? extends RuntimeException> INDEX = IndexOutOfBoundsException.class;
    static final Class<? extends RuntimeException> ARGUMENT = IllegalArgumentException.class;
    static final Class<? extends RuntimeException> STATE = IllegalStateException.class;

    interface Call {
        int answer();
    }

    private static int checked = 0;
    private static int wrong = 0;

    private Check() {
    }

    static void due(String call, long want, long got) {
        due(call, String.valueOf(want), String.valueOf(got));
    }

    static void due(String call, String want, String got) {
        checked++;
        if (!got.equals(want)) {
            wrong++;
            System.out.println(call + " answered " + got + ", due is " + want);
        }
    }

    /** The answer as a text, or the name of the class of what was thrown, which has to be just that class. */
    static String outcome(Call made) {
        try {
            return String.valueOf(made.answer());
        } catch (RuntimeException thrown) {
            return thrown.getClass().getName();
        }
    }

    /** Ends a test's run: with the exit code 1, if an answer was not as due. */
    static void end(String test) {
        System.out.println(test + ": " + checked + " checked, " + wrong + " not as due");
        if (wrong != 0 || checked == 0) {
            System.exit(1);
        }
    }
}
