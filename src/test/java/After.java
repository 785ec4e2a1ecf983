import java.util.ArrayList;
import java.util.List;
import java.util.function.Function;

/**
 * What is asked and done behind a call that was refused, and behind the same calls without it: the answers
 * have to be alike. Each question gets an object of its own.
 */
final class After {
    /** What a question asks at most: of six versions with full decks. */
    static final int MOST_CALLS = 360;
    static final List<Function<Slidewarden, String>> QUESTIONS = questions();

    private static final int BRANCHES = 6;
    private static final int VERSIONS = 40;
    private static final int SLIDES = 20;
    private static final int OBJECTS = 4;
    private static final int RULES = 8;
    private static final int VERSIONS_AT_ONCE = 6;

    private After() {
    }

    private static List<Function<Slidewarden, String>> questions() {
        List<Function<Slidewarden, String>> all = new ArrayList<>();
        all.add(After::branches);
        all.add(After::allSlides);
        for (int first = 0; first < VERSIONS; first += VERSIONS_AT_ONCE) {
            int start = first;
            all.add(x -> versions(x, start));
        }
        all.add(After::goOnWithDecks);
        all.add(After::goOnWithRules);
        all.add(After::goOnWithShows);
        return all;
    }

    /** The slides of a version in their order, with a blank between them. */
    static String deck(Slidewarden x, int version) {
        StringBuilder row = new StringBuilder();
        int slide = x.slideAt(version, 0);
        for (int place = 1; slide != Slidewarden.NONE; place++) {
            row.append(place == 1 ? "" : " ").append(slide);
            slide = x.slideAt(version, place);
        }
        return row.toString();
    }

    private static String branches(Slidewarden x) {
        StringBuilder told = new StringBuilder();
        for (int into = 0; into <= BRANCHES; into++) {
            int branch = into;
            tell(told, "head", () -> x.head(branch));
            tell(told, "shown", () -> x.shown(branch));
            for (int other = 0; other < BRANCHES; other++) {
                int from = other;
                tell(told, "base", () -> x.base(branch, from));
                tell(told, "clashes", () -> x.clashes(branch, from));
            }
        }
        return told.toString();
    }

    private static String allSlides(Slidewarden x) {
        StringBuilder told = new StringBuilder();
        for (int number = 0; number <= SLIDES; number++) {
            int slide = number;
            tell(told, "value", () -> x.value(0, slide, 0));
        }
        for (int number = 0; number <= VERSIONS; number++) {
            int version = number;
            tell(told, "about", () -> x.about(version, 3));
        }
        return told.toString();
    }

    private static String versions(Slidewarden x, int first) {
        StringBuilder told = new StringBuilder();
        for (int number = first; number < first + VERSIONS_AT_ONCE; number++) {
            int version = number;
            if (Check.outcome(() -> x.about(version, 3)).contains("Exception")) {
                return told.toString();
            }
            for (int asked = 0; asked < 5; asked++) {
                told.append(' ').append(x.about(version, asked));
            }
            told.append(' ').append(x.blocks(version)).append(' ').append(x.warnings(version));
            told.append(' ').append(x.firstBlock(version)).append(" deck ");
            for (int place = 0; place < x.about(version, 3); place++) {
                int slide = x.slideAt(version, place);
                told.append(' ').append(slide).append(':');
                for (int object = 0; object < OBJECTS; object++) {
                    told.append(x.value(version, slide, object)).append(' ');
                }
            }
        }
        return told.toString();
    }

    private static String goOnWithDecks(Slidewarden x) {
        StringBuilder told = new StringBuilder();
        tell(told, "branch", () -> x.branch(0));
        for (int number = 0; number < BRANCHES; number++) {
            int branch = number;
            tell(told, "add", () -> x.add(branch, 0));
            tell(told, "head", () -> x.head(branch));
        }
        for (int number = 0; number < SLIDES; number++) {
            int slide = number;
            tell(told, "set", () -> x.set(0, slide, slide % OBJECTS, 500));
            tell(told, "set", () -> x.set(1, slide, slide % OBJECTS, 501));
        }
        for (int number = 0; number < SLIDES; number++) {
            int slide = number;
            tell(told, "drop", () -> x.drop(slide % 2, slide));
        }
        for (int number = 1; number < BRANCHES; number++) {
            int branch = number;
            tell(told, "clashes", () -> x.clashes(0, branch));
            tell(told, "merge", () -> x.merge(0, branch, Slidewarden.THEIRS));
        }
        tell(told, "head", () -> x.head(0));
        return told.toString();
    }

    private static String goOnWithRules(Slidewarden x) {
        StringBuilder told = new StringBuilder();
        for (int number = 0; number < RULES; number++) {
            int rule = number;
            tell(told, "waive", () -> x.waive(rule, 0, 999));
            tell(told, "tighten", () -> x.tighten(rule, 400, 600));
            tell(told, "tighten", () -> x.tighten(rule, 5, 5));
        }
        for (int number = 0; number < VERSIONS; number++) {
            int version = number;
            tell(told, "blocks", () -> x.blocks(version));
            tell(told, "warnings", () -> x.warnings(version));
        }
        for (int number = 0; number <= RULES; number++) {
            tell(told, "rule", () -> x.rule(1, 0, 1, 999));
        }
        for (int number = 0; number <= RULES; number++) {
            int rule = number;
            tell(told, "waive", () -> x.waive(rule, 0, 999));
        }
        return told.toString();
    }

    /** From day to day: what is shown, and what a waiver's end leaves. */
    private static String goOnWithShows(Slidewarden x) {
        StringBuilder told = new StringBuilder();
        for (int days = 0; days < 3; days++) {
            for (int number = 0; number < BRANCHES; number++) {
                int branch = number;
                tell(told, "shown", () -> x.shown(branch));
                tell(told, "show", () -> x.show(branch));
                tell(told, "shown", () -> x.shown(branch));
            }
            for (int number = 0; number < VERSIONS; number++) {
                int version = number;
                tell(told, "blocks", () -> x.blocks(version));
            }
            tell(told, "pass", () -> x.pass(1));
        }
        tell(told, "pass", () -> x.pass(100));
        return told.toString();
    }

    private static void tell(StringBuilder told, String call, Check.Call made) {
        told.append(call).append(' ').append(Check.outcome(made)).append(", ");
    }
}
