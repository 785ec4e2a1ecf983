import java.util.ArrayList;
import java.util.List;
import java.util.function.Function;

/**
 * A test told as a text: the calls on one new object, a line for each, with what is due.
 *
 * <pre>
 * add 0 0 = 0             the call add(0, 0) has to answer 0
 * add 0 5 ! INDEX         it has to throw just an IndexOutOfBoundsException (ARGUMENT and STATE are the
 *                         other ones), and what is asked and done behind it has to be as without it
 * add 0 0                 it has to answer, no matter what
 * deck 2 = 1 0            the slides of the version 2, in their order
 * objects 2 0 = 5 0 0 9   the objects of the slide 0 in the version 2
 * # words                 no call
 * </pre>
 *
 * NONE, OURS, THEIRS, and LEAST and MOST, the least and the most int, may stand for numbers.
 */
final class Script {
    /** With those of After they stay under 512: what later calls answer is free, the document says. */
    private static final int MOST_CALLS = 512 - After.MOST_CALLS;

    private final String sentence;
    private final List<String> made = new ArrayList<>();
    private final Slidewarden x = new Slidewarden();

    private Script(String sentence) {
        this.sentence = sentence;
    }

    /** Plays a text, a test of a sentence of the document; that stands in front of what is not as due. */
    static void test(String sentence, String... texts) {
        Script script = new Script(sentence);
        for (String line : String.join("\n", texts).split("\n")) {
            String call = line.replaceFirst("#.*", "").trim();
            if (!call.isEmpty()) {
                script.play(call);
            }
        }
    }

    /** The same line some times. */
    static String times(int count, String line) {
        return (line + "\n").repeat(count);
    }

    private void play(String line) {
        int answered = line.indexOf('=');
        int thrown = line.indexOf('!');
        if (answered >= 0) {
            String call = line.substring(0, answered).trim();
            due(call, numbers(line.substring(answered + 1)), outcome(x, call));
            made.add(call);
        } else if (thrown >= 0) {
            String call = line.substring(0, thrown).trim();
            refused(call, kind(line.substring(thrown + 1).trim()));
        } else {
            String answer = outcome(x, line);
            due(line, "no exception", answer.contains("Exception") ? answer : "no exception");
            made.add(line);
        }
        if (made.size() >= MOST_CALLS) {
            throw new Error("a text of too many calls: " + sentence);
        }
    }

    private void refused(String call, String kind) {
        due(call, kind, outcome(x, call));
        for (Function<Slidewarden, String> question : After.QUESTIONS) {
            Slidewarden without = played();
            Slidewarden with = played();
            outcome(with, call);
            String want = question.apply(without);
            String got = question.apply(with);
            int same = alikeUpTo(want, got);
            due(call + ", what is behind it", cut(want, same), cut(got, same));
        }
    }

    private static int alikeUpTo(String one, String other) {
        int at = 0;
        while (at < one.length() && at < other.length() && one.charAt(at) == other.charAt(at)) {
            at++;
        }
        return at;
    }

    /** A few signs in front of a place and behind it: the whole text would be too long to read. */
    private static String cut(String text, int at) {
        return text.substring(Math.max(0, at - 20), Math.min(text.length(), at + 40));
    }

    /** Another object on which the same calls were made, but for those that were refused. */
    private Slidewarden played() {
        Slidewarden other = new Slidewarden();
        for (String call : made) {
            outcome(other, call);
        }
        return other;
    }

    private void due(String call, String want, String got) {
        Check.due(sentence + ": " + call + " (the call " + made.size() + ")", want, got);
    }

    private static String kind(String word) {
        return switch (word) {
            case "INDEX" -> Check.INDEX.getName();
            case "ARGUMENT" -> Check.ARGUMENT.getName();
            case "STATE" -> Check.STATE.getName();
            default -> throw new Error("no such exception: " + word);
        };
    }

    /** Words as numbers, with a blank between them. */
    private static String numbers(String words) {
        StringBuilder row = new StringBuilder();
        for (String word : words.trim().split(" +")) {
            if (!word.isEmpty()) {
                row.append(row.length() == 0 ? "" : " ").append(number(word));
            }
        }
        return row.toString();
    }

    private static int number(String word) {
        return switch (word) {
            case "NONE" -> Slidewarden.NONE;
            case "OURS" -> Slidewarden.OURS;
            case "THEIRS" -> Slidewarden.THEIRS;
            case "LEAST" -> Integer.MIN_VALUE;
            case "MOST" -> Integer.MAX_VALUE;
            default -> Integer.parseInt(word);
        };
    }

    /** What a call answers, or the name of the class of what it throws. */
    private static String outcome(Slidewarden x, String call) {
        String[] words = call.split(" +");
        int[] a = new int[words.length - 1];
        for (int at = 0; at < a.length; at++) {
            a[at] = number(words[at + 1]);
        }
        if (words[0].equals("deck")) {
            return After.deck(x, a[0]);
        }
        if (words[0].equals("objects")) {
            return x.value(a[0], a[1], 0) + " " + x.value(a[0], a[1], 1) + " " + x.value(a[0], a[1], 2) + " "
                    + x.value(a[0], a[1], 3);
        }
        return Check.outcome(() -> call(x, words[0] + "/" + a.length, a));
    }

    private static int call(Slidewarden x, String name, int[] a) {
        return switch (name) {
            case "branch/1" -> x.branch(a[0]);
            case "add/2" -> x.add(a[0], a[1]);
            case "set/4" -> x.set(a[0], a[1], a[2], a[3]);
            case "drop/2" -> x.drop(a[0], a[1]);
            case "head/1" -> x.head(a[0]);
            case "about/2" -> x.about(a[0], a[1]);
            case "value/3" -> x.value(a[0], a[1], a[2]);
            case "slideAt/2" -> x.slideAt(a[0], a[1]);
            case "base/2" -> x.base(a[0], a[1]);
            case "clashes/2" -> x.clashes(a[0], a[1]);
            case "merged/5" -> x.merged(a[0], a[1], a[2], a[3], a[4]);
            case "merge/3" -> x.merge(a[0], a[1], a[2]);
            case "rule/4" -> x.rule(a[0], a[1], a[2], a[3]);
            case "tighten/3" -> x.tighten(a[0], a[1], a[2]);
            case "waive/3" -> x.waive(a[0], a[1], a[2]);
            case "blocks/1" -> x.blocks(a[0]);
            case "warnings/1" -> x.warnings(a[0]);
            case "firstBlock/1" -> x.firstBlock(a[0]);
            case "show/1" -> x.show(a[0]);
            case "shown/1" -> x.shown(a[0]);
            case "pass/1" -> x.pass(a[0]);
            default -> throw new Error("no such call: " + name);
        };
    }
}
