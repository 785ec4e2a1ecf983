/** What the tests share: answers that are due, calls that are refused, and all that an object tells. */
final class Check {
    static final Class<? extends RuntimeException> INDEX = IndexOutOfBoundsException.class;
    static final Class<? extends RuntimeException> ARGUMENT = IllegalArgumentException.class;
    static final Class<? extends RuntimeException> STATE = IllegalStateException.class;

    interface Call {
        int answer();
    }

    private static int checked = 0;
    private static int wrong = 0;

    private Check() {
    }

    static void due(String call, long want, long got) {
        checked++;
        if (got != want) {
            wrong++;
            System.out.println(call + " answered " + got + ", due is " + want);
        }
    }

    static void due(String call, String want, String got) {
        checked++;
        if (!got.equals(want)) {
            wrong++;
            System.out.println(call + " answered " + got + ", due is " + want);
        }
    }

    /** The call has to throw just this class, none below it, and to leave all that the object tells. */
    static void refused(String call, Class<? extends RuntimeException> kind, Slidewarden x, Call made) {
        String before = everything(x);
        due(call, kind.getName(), outcome(made));
        due(call + ", what it left", before, everything(x));
    }

    /** The answer as a text, or the name of the class of what was thrown. */
    static String outcome(Call made) {
        try {
            return String.valueOf(made.answer());
        } catch (RuntimeException thrown) {
            return thrown.getClass().getName();
        }
    }

    /** The slides of a version in their order, as in "2 0 1". */
    static String order(Slidewarden x, int version) {
        StringBuilder row = new StringBuilder();
        for (int place = 0; x.slideAt(version, place) != Slidewarden.NONE; place++) {
            row.append(place == 0 ? "" : " ").append(x.slideAt(version, place));
        }
        return row.toString();
    }

    /** All that can be asked of an object without changing it. */
    static String everything(Slidewarden x) {
        StringBuilder told = new StringBuilder();
        for (int version = -1; version <= 40; version++) {
            tellVersion(x, version, told);
        }
        for (int into = -1; into <= 6; into++) {
            int branch = into;
            told.append(" branch ").append(into);
            told.append(' ').append(outcome(() -> x.head(branch)));
            told.append(' ').append(outcome(() -> x.shown(branch)));
            for (int other = 0; other < 6; other++) {
                int from = other;
                told.append(' ').append(outcome(() -> x.base(branch, from)));
                told.append(' ').append(outcome(() -> x.clashes(branch, from)));
            }
        }
        return told.toString();
    }

    private static void tellVersion(Slidewarden x, int version, StringBuilder told) {
        told.append(" version ").append(version);
        for (int asked = 0; asked < 5; asked++) {
            int what = asked;
            told.append(' ').append(outcome(() -> x.about(version, what)));
        }
        told.append(' ').append(outcome(() -> x.blocks(version)));
        told.append(' ').append(outcome(() -> x.warnings(version)));
        told.append(' ').append(outcome(() -> x.firstBlock(version)));
        for (int at = 0; at < 9; at++) {
            int place = at;
            told.append(' ').append(outcome(() -> x.slideAt(version, place)));
        }
        for (int cell = 0; cell < 20 * 4; cell++) {
            int slide = cell / 4;
            int object = cell % 4;
            told.append(' ').append(outcome(() -> x.value(version, slide, object)));
        }
    }

    /** Ends a test's run: with the exit code 1, if an answer was not as due. */
    static void end(String test) {
        System.out.println(test + ": " + checked + " checked, " + wrong + " not as due");
        if (wrong != 0 || checked == 0) {
            System.exit(1);
        }
    }
}
