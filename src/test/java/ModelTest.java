import java.util.Arrays;

/** All calls in long mixes, the same ones at every run, each answer as the Model gives it. */
public final class ModelTest {
    private static final int RUNS = 3000;
    /** What later calls answer is free, the document says. */
    private static final int CALLS = 512;
    /** A full deck's slides and objects. */
    private static final int MOST_AT_ONCE = 9 + 8 * 4;

    /** Which calls a mix makes, by their numbers in call(..); those that stand more often come more often. */
    private static final int[][] MIXES = {
        {0, 1, 2, 3, 4, 5, 6, 7, 8, 9, 10, 11, 12, 13, 14, 15, 16, 17, 18, 19, 20},
        {0, 1, 1, 2, 2, 2, 2, 3, 9, 10, 10, 11, 11, 11, 12, 12, 8, 6, 7},
        {1, 2, 2, 13, 14, 15, 15, 16, 17, 18, 19, 20, 21, 16, 18, 20},
        {0, 1, 3, 11, 12, 8, 8, 6, 9, 10},
    };

    private long seed;
    private int few;
    private int calls;
    private Slidewarden x;
    private Model model;

    public static void main(String[] args) {
        ModelTest test = new ModelTest();
        for (int run = 0; run < RUNS; run++) {
            test.run(run);
        }
        Check.end("ModelTest");
    }

    private void run(int run) {
        seed = run;
        few = 2 + run % 3;
        calls = 0;
        x = new Slidewarden();
        model = new Model();
        int[] mix = MIXES[run % MIXES.length];
        prepare(run);
        while (calls + MOST_AT_ONCE <= CALLS) {
            int[] a = {near(6), near(6), near(20), near(4), near(3) - 1, near(40)};
            call("run " + run + ", ", mix[below(mix.length)], a);
        }
    }

    /** A deck with some slides and a branch or two from it, so that merges have a base. */
    private void prepare(int run) {
        String label = "run " + run + ", ";
        int size = run / 4 % 6;
        for (int place = 0; place < size; place++) {
            call(label, 1, new int[] {0, 0, 0, 0, 0, 0});
        }
        for (int branch = 0; branch < run / 24 % 4; branch++) {
            call(label, 0, new int[] {0, 0, 0, 0, 0, size});
        }
    }

    /** The numbers that a call gets: its a[0] a branch, a[1] another, a[2] a slide, a[3] an object. */
    private void call(String label, int which, int[] a) {
        int settled = a[4];
        int version = a[5];
        int value = below(5) == 0 ? near(1000) : below(few) * 10;
        int least = 1 + below(few) * 5;
        int most = below(9) == 0 ? near(1000) : 30 - below(few) * 4;
        int place = below(3) == 0 ? near(9) : below(2);
        int days = below(4) == 0 ? near(101) : 1;
        int until = below(6) == 0 ? near(1000) : below(20);
        switch (which) {
            case 0 -> same(label + "branch", () -> x.branch(version), () -> model.branch(version), version);
            case 1 -> same(label + "add", () -> x.add(a[0], place), () -> model.add(a[0], place), a[0], place);
            case 2 -> same(label + "set", () -> x.set(a[0], a[2], a[3], value),
                    () -> model.set(a[0], a[2], a[3], value), a[0], a[2], a[3], value);
            case 3 -> same(label + "drop", () -> x.drop(a[0], a[2]), () -> model.drop(a[0], a[2]), a[0], a[2]);
            case 4 -> same(label + "head", () -> x.head(a[0]), () -> model.head(a[0]), a[0]);
            case 5 -> same(label + "about", () -> x.about(version, a[1]), () -> model.about(version, a[1]),
                    version, a[1]);
            case 6 -> same(label + "value", () -> x.value(version, a[2], a[3]),
                    () -> model.value(version, a[2], a[3]), version, a[2], a[3]);
            case 7 -> same(label + "slideAt", () -> x.slideAt(version, place),
                    () -> model.slideAt(version, place), version, place);
            case 8 -> allOfAVersion(label, version);
            case 9 -> same(label + "base", () -> x.base(a[0], a[1]), () -> model.base(a[0], a[1]), a[0], a[1]);
            case 10 -> same(label + "clashes", () -> x.clashes(a[0], a[1]), () -> model.clashes(a[0], a[1]),
                    a[0], a[1]);
            case 11 -> same(label + "merged", () -> x.merged(a[0], a[1], a[2], a[3], settled),
                    () -> model.merged(a[0], a[1], a[2], a[3], settled), a[0], a[1], a[2], a[3], settled);
            case 12 -> same(label + "merge", () -> x.merge(a[0], a[1], settled),
                    () -> model.merge(a[0], a[1], settled), a[0], a[1], settled);
            case 13 -> same(label + "rule", () -> x.rule(settled + 1, a[3], least, most),
                    () -> model.rule(settled + 1, a[3], least, most), settled + 1, a[3], least, most);
            case 14 -> same(label + "tighten", () -> x.tighten(a[1], least, most),
                    () -> model.tighten(a[1], least, most), a[1], least, most);
            case 15 -> same(label + "waive", () -> x.waive(a[1], a[2], until),
                    () -> model.waive(a[1], a[2], until), a[1], a[2], until);
            case 16 -> same(label + "blocks", () -> x.blocks(version), () -> model.blocks(version), version);
            case 17 -> same(label + "warnings", () -> x.warnings(version), () -> model.warnings(version), version);
            case 18 -> same(label + "firstBlock", () -> x.firstBlock(version),
                    () -> model.firstBlock(version), version);
            case 19 -> same(label + "show", () -> x.show(a[0]), () -> model.show(a[0]), a[0]);
            case 20 -> same(label + "shown", () -> x.shown(a[0]), () -> model.shown(a[0]), a[0]);
            default -> same(label + "pass", () -> x.pass(days), () -> model.pass(days), days);
        }
    }

    /** Its slides by place, and their objects, as far as the model has them. */
    private void allOfAVersion(String label, int version) {
        int size = version >= 0 && version <= newest() ? model.about(version, 3) : 0;
        for (int at = 0; at <= size; at++) {
            int place = at;
            same(label + "slideAt", () -> x.slideAt(version, place), () -> model.slideAt(version, place),
                    version, place);
        }
        for (int cell = 0; cell < size * 4; cell++) {
            int slide = model.slideAt(version, cell / 4);
            int object = cell % 4;
            same(label + "value", () -> x.value(version, slide, object),
                    () -> model.value(version, slide, object), version, slide, object);
        }
    }

    /** The greatest version: always the head of a branch. */
    private int newest() {
        int newest = 0;
        for (int branch = 0; branch < 6; branch++) {
            int asked = branch;
            String head = Check.outcome(() -> model.head(asked));
            newest = Math.max(newest, head.contains("Exception") ? 0 : Integer.parseInt(head));
        }
        return newest;
    }

    private void same(String call, Check.Call made, Check.Call due, int... told) {
        calls++;
        Check.due(call + Arrays.toString(told), Check.outcome(due), Check.outcome(made));
    }

    private int below(int bound) {
        seed = seed * 6364136223846793005L + 1442695040888963407L;
        return (int) ((seed >>> 33) % bound);
    }

    /** 0 to bound - 1, small ones more often; now and then just outside, or far outside. */
    private int near(int bound) {
        int kind = below(60);
        if (kind == 0) {
            return -1;
        }
        if (kind == 1) {
            return bound;
        }
        if (kind == 2) {
            return below(2) == 0 ? Integer.MIN_VALUE : Integer.MAX_VALUE;
        }
        return kind < 40 ? below(Math.min(bound, few + 1)) : below(bound);
    }
}
