/** The promises 1 to 9: a new object, branch, add, set, drop, head, about, value, slideAt. */
public final class DecksTest {
    private static final int NONE = Slidewarden.NONE;

    public static void main(String[] args) {
        promise1NewObject();
        promise2Branch();
        promise3Add();
        promise3AddAtTheLimits();
        promise4Set();
        promise5Drop();
        promise6Head();
        promise7About();
        promise7AboutMerges();
        promise8Value();
        promise9SlideAt();
        fortyVersions();
        Check.end("DecksTest");
    }

    private static void promise1NewObject() {
        Slidewarden x = new Slidewarden();
        Check.due("head(0)", 0, x.head(0));
        Check.due("about(0, 0)", 0, x.about(0, 0));
        Check.due("about(0, 1)", NONE, x.about(0, 1));
        Check.due("about(0, 2)", NONE, x.about(0, 2));
        Check.due("about(0, 3)", 0, x.about(0, 3));
        Check.due("about(0, 4)", 1, x.about(0, 4));
        Check.due("slideAt(0, 0)", NONE, x.slideAt(0, 0));
        Check.due("shown(0)", NONE, x.shown(0));
        Check.due("blocks(0)", 0, x.blocks(0));
        Check.due("warnings(0)", 0, x.warnings(0));
        Check.due("firstBlock(0)", NONE, x.firstBlock(0));
        Check.refused("about(1, 0)", Check.INDEX, x, () -> x.about(1, 0));
        Check.refused("head(1)", Check.INDEX, x, () -> x.head(1));
        Check.refused("value(0, 0, 0)", Check.INDEX, x, () -> x.value(0, 0, 0));
        Check.refused("tighten(0, 1, 1)", Check.INDEX, x, () -> x.tighten(0, 1, 1));
        Check.due("the first rule", 0, x.rule(1, 0, 1, 999));
        Check.due("the first slide", 0, x.add(0, 0));
        Check.due("the first waiver, of the day 0", 0, x.waive(0, 0, 0));
        Check.due("the day 1", 1, x.pass(1));
    }

    private static void promise2Branch() {
        Slidewarden x = new Slidewarden();
        Check.refused("branch(-1)", Check.INDEX, x, () -> x.branch(-1));
        Check.refused("branch(1)", Check.INDEX, x, () -> x.branch(1));
        x.add(0, 0);
        x.add(0, 0);
        Check.due("branch(1)", 1, x.branch(1));
        Check.due("branch(2)", 2, x.branch(2));
        Check.due("branch(0)", 3, x.branch(0));
        Check.due("head(1)", 1, x.head(1));
        Check.due("head(2)", 2, x.head(2));
        Check.due("head(3)", 0, x.head(3));
        Check.due("head(0)", 2, x.head(0));
        Check.due("shown(1)", NONE, x.shown(1));
        Check.refused("branch(3) of the versions 0 to 2", Check.INDEX, x, () -> x.branch(3));
        x.branch(1);
        Check.due("branch(1), the sixth", 5, x.branch(1));
        Check.refused("branch(1), a seventh", Check.STATE, x, () -> x.branch(1));
        Check.refused("branch(3), a seventh", Check.INDEX, x, () -> x.branch(3));
        Check.refused("head(6)", Check.INDEX, x, () -> x.head(6));
    }

    private static void promise3Add() {
        Slidewarden x = new Slidewarden();
        Check.refused("add(1, 0)", Check.INDEX, x, () -> x.add(1, 0));
        Check.refused("add(-1, 0)", Check.INDEX, x, () -> x.add(-1, 0));
        Check.refused("add(0, 1)", Check.INDEX, x, () -> x.add(0, 1));
        Check.refused("add(0, -1)", Check.INDEX, x, () -> x.add(0, -1));
        Check.due("add(0, 0)", 0, x.add(0, 0));
        Check.due("add(0, 0)", 1, x.add(0, 0));
        Check.due("add(0, 2)", 2, x.add(0, 2));
        Check.due("add(0, 1)", 3, x.add(0, 1));
        Check.refused("add(0, 5)", Check.INDEX, x, () -> x.add(0, 5));
        Check.due("the deck", "1 3 0 2", Check.order(x, 4));
        Check.due("the deck before", "1 0 2", Check.order(x, 3));
        Check.due("head(0)", 4, x.head(0));
        for (int object = 0; object < 4; object++) {
            Check.due("a new slide's object", 0, x.value(4, 3, object));
        }
        x.branch(2);
        Check.due("add(1, 1), numbered on", 4, x.add(1, 1));
        Check.due("the other branch's deck", "1 4 0", Check.order(x, 5));
        x.set(1, 4, 2, 7);
        x.add(1, 1);
        Check.due("the new slide's object", 0, x.value(7, 5, 2));
        Check.due("the slide's object behind it", 7, x.value(7, 4, 2));
        x.drop(1, 4);
        x.add(1, 2);
        Check.due("a new slide at a dropped one's place", "1 5 6 0", Check.order(x, 9));
        Check.due("its object", 0, x.value(9, 6, 2));
    }

    private static void promise3AddAtTheLimits() {
        Slidewarden x = new Slidewarden();
        for (int slide = 0; slide < 8; slide++) {
            Check.due("add(0, 0)", slide, x.add(0, 0));
        }
        Check.due("the deck", "7 6 5 4 3 2 1 0", Check.order(x, 8));
        Check.refused("add(0, 8), a ninth", Check.STATE, x, () -> x.add(0, 8));
        Check.refused("add(0, 0), a ninth", Check.STATE, x, () -> x.add(0, 0));
        Check.refused("add(0, 9), a ninth", Check.INDEX, x, () -> x.add(0, 9));
        x.branch(0);
        for (int slide = 8; slide < 16; slide++) {
            Check.due("add(1, ..)", slide, x.add(1, slide - 8));
        }
        x.drop(0, 3);
        x.drop(1, 12);
        x.drop(1, 13);
        x.drop(1, 14);
        Check.due("add(0, 7)", 16, x.add(0, 7));
        for (int slide = 17; slide < 20; slide++) {
            Check.due("add(1, 0)", slide, x.add(1, 0));
        }
        x.branch(0);
        Check.refused("add(2, 0), a slide 20", Check.STATE, x, () -> x.add(2, 0));
        Check.refused("add(2, 1), a slide 20", Check.INDEX, x, () -> x.add(2, 1));
        Check.due("the slide 19", 0, x.value(x.head(1), 19, 3));
    }

    private static void promise4Set() {
        Slidewarden x = new Slidewarden();
        x.add(0, 0);
        x.add(0, 1);
        Check.due("set(0, 0, 0, 999)", 0, x.set(0, 0, 0, 999));
        Check.due("set(0, 0, 0, 5)", 999, x.set(0, 0, 0, 5));
        Check.due("set(0, 1, 3, 8)", 0, x.set(0, 1, 3, 8));
        Check.due("set(0, 0, 0, 5), alike", 5, x.set(0, 0, 0, 5));
        Check.due("a version for each", 6, x.head(0));
        Check.due("set(0, 0, 0, 0)", 5, x.set(0, 0, 0, 0));
        Check.due("value(3, 0, 0)", 999, x.value(3, 0, 0));
        Check.due("value(4, 0, 0)", 5, x.value(4, 0, 0));
        Check.due("value(7, 0, 0)", 0, x.value(7, 0, 0));
        Check.due("value(7, 1, 3)", 8, x.value(7, 1, 3));
        Check.due("value(7, 1, 0)", 0, x.value(7, 1, 0));
        Check.due("value(4, 1, 3)", 0, x.value(4, 1, 3));
        Check.refused("set(1, 0, 0, 1)", Check.INDEX, x, () -> x.set(1, 0, 0, 1));
        Check.refused("set(-1, 0, 0, 1)", Check.INDEX, x, () -> x.set(-1, 0, 0, 1));
        Check.refused("set(0, 2, 0, 1)", Check.INDEX, x, () -> x.set(0, 2, 0, 1));
        Check.refused("set(0, -1, 0, 1)", Check.INDEX, x, () -> x.set(0, -1, 0, 1));
        Check.refused("set(0, 0, 4, 1)", Check.INDEX, x, () -> x.set(0, 0, 4, 1));
        Check.refused("set(0, 0, -1, 1)", Check.INDEX, x, () -> x.set(0, 0, -1, 1));
        Check.refused("set(0, 0, 0, 1000)", Check.ARGUMENT, x, () -> x.set(0, 0, 0, 1000));
        Check.refused("set(0, 0, 0, -1)", Check.ARGUMENT, x, () -> x.set(0, 0, 0, -1));
        Check.refused("set(0, 0, 4, 1000)", Check.INDEX, x, () -> x.set(0, 0, 4, 1000));
        x.branch(1);
        Check.refused("set(1, 1, 0, 1), not in its head", Check.INDEX, x, () -> x.set(1, 1, 0, 1));
        x.drop(0, 1);
        Check.refused("set(0, 1, 0, 1), dropped", Check.INDEX, x, () -> x.set(0, 1, 0, 1));
    }

    private static void promise5Drop() {
        Slidewarden x = new Slidewarden();
        x.add(0, 0);
        x.add(0, 1);
        x.add(0, 2);
        x.set(0, 0, 1, 10);
        x.set(0, 1, 1, 11);
        x.set(0, 2, 1, 12);
        Check.refused("drop(1, 0)", Check.INDEX, x, () -> x.drop(1, 0));
        Check.refused("drop(-1, 0)", Check.INDEX, x, () -> x.drop(-1, 0));
        Check.refused("drop(0, 3)", Check.INDEX, x, () -> x.drop(0, 3));
        Check.refused("drop(0, -1)", Check.INDEX, x, () -> x.drop(0, -1));
        Check.due("drop(0, 1)", 7, x.drop(0, 1));
        Check.due("head(0)", 7, x.head(0));
        Check.due("the deck", "0 2", Check.order(x, 7));
        Check.due("the deck before", "0 1 2", Check.order(x, 6));
        Check.due("value(7, 0, 1)", 10, x.value(7, 0, 1));
        Check.due("value(7, 1, 1)", NONE, x.value(7, 1, 1));
        Check.due("value(7, 2, 1)", 12, x.value(7, 2, 1));
        Check.refused("drop(0, 1), again", Check.INDEX, x, () -> x.drop(0, 1));
        Check.due("drop(0, 2)", 8, x.drop(0, 2));
        Check.due("drop(0, 0)", 9, x.drop(0, 0));
        Check.due("the deck", "", Check.order(x, 9));
        Check.due("its number is not given again", 3, x.add(0, 0));
    }

    private static void promise6Head() {
        Slidewarden x = new Slidewarden();
        x.branch(0);
        Check.due("head(1)", 0, x.head(1));
        x.add(1, 0);
        Check.due("head(1)", 1, x.head(1));
        Check.due("head(0)", 0, x.head(0));
        x.add(0, 0);
        Check.due("head(0)", 2, x.head(0));
        Check.due("head(1)", 1, x.head(1));
        Check.refused("head(2)", Check.INDEX, x, () -> x.head(2));
        Check.refused("head(-1)", Check.INDEX, x, () -> x.head(-1));
    }

    private static void promise7About() {
        Slidewarden x = new Slidewarden();
        x.add(0, 0);
        x.branch(0);
        x.add(1, 0);
        x.add(1, 0);
        x.set(0, 0, 0, 1);
        Check.due("about(3, 0)", 1, x.about(3, 0));
        Check.due("about(3, 1)", 2, x.about(3, 1));
        Check.due("about(3, 2)", NONE, x.about(3, 2));
        Check.due("about(3, 3)", 2, x.about(3, 3));
        Check.due("about(3, 4)", 3, x.about(3, 4));
        Check.due("about(4, 0)", 0, x.about(4, 0));
        Check.due("about(4, 1)", 1, x.about(4, 1));
        Check.due("about(4, 2), a set", NONE, x.about(4, 2));
        Check.due("about(4, 3)", 1, x.about(4, 3));
        Check.due("about(4, 4)", 3, x.about(4, 4));
        Check.due("about(2, 1)", 0, x.about(2, 1));
        Check.refused("about(5, 0)", Check.INDEX, x, () -> x.about(5, 0));
        Check.refused("about(-1, 0)", Check.INDEX, x, () -> x.about(-1, 0));
        Check.refused("about(4, 5)", Check.ARGUMENT, x, () -> x.about(4, 5));
        Check.refused("about(4, -1)", Check.ARGUMENT, x, () -> x.about(4, -1));
        Check.refused("about(5, 5)", Check.INDEX, x, () -> x.about(5, 5));
        x.drop(1, 2);
        Check.due("about(5, 0)", 1, x.about(5, 0));
        Check.due("about(5, 1)", 3, x.about(5, 1));
        Check.due("about(5, 2), a drop", NONE, x.about(5, 2));
        Check.due("about(5, 3)", 1, x.about(5, 3));
    }

    private static void promise7AboutMerges() {
        Slidewarden x = new Slidewarden();
        x.add(0, 0);
        x.branch(0);
        x.add(1, 0);
        x.add(1, 0);
        x.set(0, 0, 0, 1);
        Check.due("merge(1, 0, NONE)", 5, x.merge(1, 0, NONE));
        Check.due("about(5, 0)", 1, x.about(5, 0));
        Check.due("about(5, 1)", 3, x.about(5, 1));
        Check.due("about(5, 2)", 4, x.about(5, 2));
        Check.due("about(5, 3)", 3, x.about(5, 3));
        Check.due("about(5, 4)", 6, x.about(5, 4));
        x.branch(5);
        Check.due("a merge of alike heads", 6, x.merge(2, 1, NONE));
        Check.due("about(6, 0)", 2, x.about(6, 0));
        Check.due("about(6, 1)", 5, x.about(6, 1));
        Check.due("about(6, 2)", 5, x.about(6, 2));
        Check.due("about(6, 4)", 7, x.about(6, 4));
        x.add(0, 0);
        Check.due("about(7, 2), an edit", NONE, x.about(7, 2));
        Check.due("about(7, 4)", 4, x.about(7, 4));
    }

    private static void promise8Value() {
        Slidewarden x = new Slidewarden();
        x.add(0, 0);
        x.set(0, 0, 0, 1);
        x.set(0, 0, 1, 20);
        x.set(0, 0, 2, 300);
        x.set(0, 0, 3, 999);
        Check.due("value(5, 0, 0)", 1, x.value(5, 0, 0));
        Check.due("value(5, 0, 1)", 20, x.value(5, 0, 1));
        Check.due("value(5, 0, 2)", 300, x.value(5, 0, 2));
        Check.due("value(5, 0, 3)", 999, x.value(5, 0, 3));
        Check.due("value(4, 0, 3)", 0, x.value(4, 0, 3));
        Check.due("value(0, 0, 0), not there yet", NONE, x.value(0, 0, 0));
        Check.refused("value(6, 0, 0)", Check.INDEX, x, () -> x.value(6, 0, 0));
        Check.refused("value(-1, 0, 0)", Check.INDEX, x, () -> x.value(-1, 0, 0));
        Check.refused("value(5, 1, 0)", Check.INDEX, x, () -> x.value(5, 1, 0));
        Check.refused("value(5, -1, 0)", Check.INDEX, x, () -> x.value(5, -1, 0));
        Check.refused("value(5, 0, 4)", Check.INDEX, x, () -> x.value(5, 0, 4));
        Check.refused("value(5, 0, -1)", Check.INDEX, x, () -> x.value(5, 0, -1));
    }

    private static void promise9SlideAt() {
        Slidewarden x = new Slidewarden();
        x.add(0, 0);
        x.add(0, 0);
        Check.due("slideAt(2, 0)", 1, x.slideAt(2, 0));
        Check.due("slideAt(2, 1)", 0, x.slideAt(2, 1));
        Check.due("slideAt(2, 2)", NONE, x.slideAt(2, 2));
        Check.due("slideAt(2, 8)", NONE, x.slideAt(2, 8));
        Check.due("slideAt(2, the most)", NONE, x.slideAt(2, Integer.MAX_VALUE));
        Check.due("slideAt(1, 0)", 0, x.slideAt(1, 0));
        Check.due("slideAt(1, 1)", NONE, x.slideAt(1, 1));
        x.drop(0, 1);
        Check.due("slideAt(3, 1), dropped", NONE, x.slideAt(3, 1));
        Check.refused("slideAt(4, 0)", Check.INDEX, x, () -> x.slideAt(4, 0));
        Check.refused("slideAt(-1, 0)", Check.INDEX, x, () -> x.slideAt(-1, 0));
        Check.refused("slideAt(2, -1)", Check.INDEX, x, () -> x.slideAt(2, -1));
        for (int slide = 2; slide < 9; slide++) {
            x.add(0, 0);
        }
        Check.due("the place 7 of a full deck", 0, x.slideAt(10, 7));
        Check.due("the place 8 of a full deck", NONE, x.slideAt(10, 8));
    }

    private static void fortyVersions() {
        Slidewarden x = new Slidewarden();
        x.branch(0);
        x.add(0, 0);
        for (int version = 2; version < 40; version++) {
            Check.due("set(0, 0, 0, ..)", version == 2 ? 0 : version - 1, x.set(0, 0, 0, version));
        }
        Check.due("head(0)", 39, x.head(0));
        Check.due("about(39, 4)", 40, x.about(39, 4));
        Check.refused("add(0, 0)", Check.STATE, x, () -> x.add(0, 0));
        Check.refused("add(0, 2)", Check.INDEX, x, () -> x.add(0, 2));
        Check.refused("set(0, 0, 0, 0)", Check.STATE, x, () -> x.set(0, 0, 0, 0));
        Check.refused("set(0, 0, 0, 1000)", Check.ARGUMENT, x, () -> x.set(0, 0, 0, 1000));
        Check.refused("drop(0, 0)", Check.STATE, x, () -> x.drop(0, 0));
        Check.refused("drop(0, 1)", Check.INDEX, x, () -> x.drop(0, 1));
        Check.refused("merge(0, 1, OURS)", Check.STATE, x, () -> x.merge(0, 1, Slidewarden.OURS));
        Check.due("branch(39)", 2, x.branch(39));
        Check.due("base(0, 2)", 39, x.base(0, 2));
        Check.due("base(0, 1)", 0, x.base(0, 1));
        Check.due("show(0)", 39, x.show(0));
        Check.due("rule(0, 0, 38, 38)", 0, x.rule(0, 0, 38, 38));
        Check.due("blocks(39)", 1, x.blocks(39));
        Check.due("blocks(38)", 0, x.blocks(38));
        Check.due("rule(0, 0, 1, 999)", 1, x.rule(0, 0, 1, 999));
        Check.due("tighten(1, 1, 37), the version 38", 1, x.tighten(1, 1, 37));
        Check.due("rule(2, 0, 1, 999)", 2, x.rule(2, 0, 1, 999));
        Check.due("shown(0)", NONE, x.shown(0));
    }
}
