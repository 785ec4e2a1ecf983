/** The promises 20 to 22: show, shown, pass. */
public final class ShowsTest {
    private static final int NONE = Slidewarden.NONE;

    public static void main(String[] args) {
        promise20Show();
        promise21Shown();
        promise21ShownAcrossWaivers();
        promise22Pass();
        Check.end("ShowsTest");
    }

    private static void promise20Show() {
        Slidewarden x = new Slidewarden();
        Check.due("show(0), an empty deck", 0, x.show(0));
        x.add(0, 0);
        x.branch(1);
        Check.due("show(1)", 1, x.show(1));
        Check.due("show(0)", 1, x.show(0));
        x.set(0, 0, 0, 9);
        Check.due("show(0), the head of then", 2, x.show(0));
        x.rule(2, 0, 1, 1);
        Check.due("show(0), with a warning", 2, x.show(0));
        x.set(0, 0, 0, 8);
        x.rule(1, 0, 9, 9);
        Check.refused("show(0), the rank 1", Check.STATE, x, () -> x.show(0));
        Check.due("shown(0), what was shown", 2, x.shown(0));
        x.waive(1, 0, 0);
        Check.due("show(0), waived", 3, x.show(0));
        x.rule(0, 0, 9, 9);
        Check.refused("show(0), the rank 0", Check.STATE, x, () -> x.show(0));
        Check.due("show(1), not blocked", 1, x.show(1));
        Check.refused("show(2)", Check.INDEX, x, () -> x.show(2));
        Check.refused("show(-1)", Check.INDEX, x, () -> x.show(-1));
    }

    private static void promise21Shown() {
        Slidewarden x = new Slidewarden();
        x.add(0, 0);
        Check.due("shown(0), nothing yet", NONE, x.shown(0));
        x.set(0, 0, 0, 9);
        x.branch(2);
        x.show(0);
        Check.due("shown(0)", 2, x.shown(0));
        Check.due("shown(1)", NONE, x.shown(1));
        x.set(0, 0, 0, 5);
        Check.due("shown(0), as it was shown", 2, x.shown(0));
        x.rule(0, 0, 1, 9);
        Check.due("shown(0), it keeps to the rule", 2, x.shown(0));
        x.tighten(0, 1, 8);
        Check.due("shown(0), blocked now", NONE, x.shown(0));
        Check.due("show(0)", 3, x.show(0));
        Check.due("shown(0), in place of it", 3, x.shown(0));
        x.tighten(0, 8, 8);
        Check.due("shown(0), blocked too", NONE, x.shown(0));
        x.set(0, 0, 0, 8);
        Check.due("shown(0), not the new head", NONE, x.shown(0));
        Check.refused("shown(2)", Check.INDEX, x, () -> x.shown(2));
        Check.refused("shown(-1)", Check.INDEX, x, () -> x.shown(-1));
    }

    private static void promise21ShownAcrossWaivers() {
        Slidewarden x = new Slidewarden();
        x.add(0, 0);
        x.set(0, 0, 0, 9);
        x.show(0);
        x.rule(1, 0, 1, 8);
        Check.due("blocked", NONE, x.shown(0));
        x.waive(0, 0, 3);
        Check.due("shown again", 2, x.shown(0));
        x.pass(3);
        Check.due("the last day", 2, x.shown(0));
        x.pass(1);
        Check.due("the day behind it", NONE, x.shown(0));
        x.waive(0, 0, 4);
        Check.due("shown again", 2, x.shown(0));
        Check.due("show(0)", 2, x.show(0));
        x.pass(100);
        Check.due("blocked again", NONE, x.shown(0));
    }

    private static void promise22Pass() {
        Slidewarden x = new Slidewarden();
        Check.refused("pass(0)", Check.ARGUMENT, x, () -> x.pass(0));
        Check.refused("pass(-1)", Check.ARGUMENT, x, () -> x.pass(-1));
        Check.refused("pass(101)", Check.ARGUMENT, x, () -> x.pass(101));
        Check.refused("pass(the most)", Check.ARGUMENT, x, () -> x.pass(Integer.MAX_VALUE));
        Check.due("pass(1)", 1, x.pass(1));
        for (int day = 101; day < 999; day += 100) {
            Check.due("pass(100)", day, x.pass(100));
        }
        Check.refused("pass(99), the day 1000", Check.STATE, x, () -> x.pass(99));
        Check.refused("pass(100), the day 1001", Check.STATE, x, () -> x.pass(100));
        Check.refused("pass(101)", Check.ARGUMENT, x, () -> x.pass(101));
        Check.due("pass(98)", 999, x.pass(98));
        Check.refused("pass(1), the day 1000", Check.STATE, x, () -> x.pass(1));
        Check.refused("pass(0)", Check.ARGUMENT, x, () -> x.pass(0));
        x.add(0, 0);
        x.rule(1, 0, 1, 1);
        Check.due("a waiver on the last day", 0, x.waive(0, 0, 999));
        Check.refused("a waiver of the day before", Check.ARGUMENT, x, () -> x.waive(0, 0, 998));
    }
}
