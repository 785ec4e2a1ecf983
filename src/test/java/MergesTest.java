/** The promises 10 to 13: base, clashes, merged, merge. */
public final class MergesTest {
    private static final int NONE = Slidewarden.NONE;
    private static final int OURS = Slidewarden.OURS;
    private static final int THEIRS = Slidewarden.THEIRS;

    public static void main(String[] args) {
        promise10Base();
        promise10BaseAcrossMerges();
        promise11ClashesOfObjects();
        promise11ClashesOfSlides();
        promise11ClashesWithoutTheBase();
        promise12Merged();
        promise12MergedOfDroppedSlides();
        promise12MergedOfMoreThanADeck();
        promise13Merge();
        promise13MergeOfDroppedSlides();
        promise13OrderOfSlides();
        promise13AncestorHeads();
        promise13TooManySlides();
        promise13Blocked();
        wrongBranches();
        Check.end("MergesTest");
    }

    /** The slides 0 and 1 with some objects, version 6, and the branch 1 from there. */
    private static Slidewarden twoSlides() {
        Slidewarden x = new Slidewarden();
        x.add(0, 0);
        x.add(0, 1);
        x.set(0, 0, 0, 10);
        x.set(0, 0, 1, 20);
        x.set(0, 1, 2, 30);
        x.set(0, 1, 3, 40);
        x.branch(6);
        return x;
    }

    private static void promise10Base() {
        Slidewarden x = new Slidewarden();
        x.branch(0);
        Check.due("base(0, 1), alike heads", 0, x.base(0, 1));
        x.add(0, 0);
        Check.due("base(0, 1), one head is behind", 0, x.base(0, 1));
        x.add(1, 0);
        x.branch(1);
        x.add(0, 0);
        x.add(2, 0);
        Check.due("base(0, 2)", 1, x.base(0, 2));
        Check.due("base(2, 0)", 1, x.base(2, 0));
        Check.due("base(1, 2)", 0, x.base(1, 2));
    }

    private static void promise10BaseAcrossMerges() {
        Slidewarden x = new Slidewarden();
        x.branch(0);
        x.add(0, 0);
        x.add(1, 0);
        x.branch(2);
        x.merge(0, 1, NONE);
        Check.due("base(0, 1), an ancestor by the merge", 2, x.base(0, 1));
        Check.due("base(2, 0)", 2, x.base(2, 0));
        x.add(1, 0);
        Check.due("base(1, 0), both went on", 2, x.base(1, 0));
        x.merge(1, 0, NONE);
        Check.due("base(1, 0)", 3, x.base(1, 0));
        x.add(0, 0);
        x.add(1, 0);
        Check.due("base(0, 1), the greatest of them", 3, x.base(0, 1));
        Check.due("base(0, 2)", 2, x.base(0, 2));
    }

    private static void promise11ClashesOfObjects() {
        Slidewarden x = twoSlides();
        Check.due("nothing changed", 0, x.clashes(0, 1));
        x.set(0, 0, 0, 11);
        Check.due("one changed", 0, x.clashes(0, 1));
        x.set(1, 0, 0, 12);
        Check.due("both changed", 1, x.clashes(0, 1));
        x.set(1, 0, 1, 0);
        x.set(0, 1, 3, 41);
        Check.due("others changed in one", 1, x.clashes(0, 1));
        x.set(0, 0, 1, 21);
        Check.due("one is gone, the other one changed", 2, x.clashes(0, 1));
        x.set(1, 1, 3, 42);
        Check.due("the third", 3, x.clashes(0, 1));
        Check.due("the other way round", 3, x.clashes(1, 0));
        x.set(1, 0, 0, 11);
        Check.due("changed alike", 2, x.clashes(0, 1));
        x.set(0, 1, 3, 40);
        Check.due("as in the base again", 1, x.clashes(0, 1));
    }

    private static void promise11ClashesOfSlides() {
        Slidewarden x = twoSlides();
        x.drop(0, 0);
        Check.due("dropped, unchanged there", 0, x.clashes(0, 1));
        x.set(1, 1, 0, 5);
        Check.due("the slide behind it changed", 0, x.clashes(0, 1));
        x.set(1, 1, 0, 0);
        x.set(1, 0, 0, 11);
        x.set(1, 0, 1, 21);
        x.set(1, 0, 3, 1);
        Check.due("dropped, changed there: one", 1, x.clashes(0, 1));
        Check.due("the other way round", 1, x.clashes(1, 0));
        x.drop(1, 1);
        Check.due("the other one dropped", 1, x.clashes(0, 1));
        x.set(0, 1, 0, 5);
        Check.due("and changed", 2, x.clashes(0, 1));
        x.drop(1, 0);
        Check.due("dropped in both", 1, x.clashes(0, 1));
    }

    /** Two merges keep a slide that the greatest common ancestor, the version 3, dropped. */
    private static void promise11ClashesWithoutTheBase() {
        Slidewarden x = new Slidewarden();
        x.add(0, 0);
        x.branch(1);
        x.set(0, 0, 0, 5);
        x.drop(1, 0);
        x.branch(2);
        Check.due("kept as in ours", 4, x.merge(0, 1, OURS));
        Check.due("the base has it not, ours has it", 0, x.clashes(0, 1));
        Check.due("as in the head that has it", 5, x.merged(0, 1, 0, 0, THEIRS));
        Check.due("as in the head that has it", 5, x.merged(1, 0, 0, 0, OURS));
        Check.due("kept as in ours", 5, x.merge(2, 1, OURS));
        Check.due("base(0, 2)", 3, x.base(0, 2));
        Check.due("value(3, 0, 0)", NONE, x.value(3, 0, 0));
        Check.due("both have it, alike", 0, x.clashes(0, 2));
        Check.due("merged(0, 2, 0, 0, OURS)", 5, x.merged(0, 2, 0, 0, OURS));
        x.set(0, 0, 0, 6);
        Check.due("an object is not alike", 1, x.clashes(0, 2));
        x.set(2, 0, 1, 7);
        Check.due("two are not", 2, x.clashes(0, 2));
        Check.due("one that is not there, as ours", 0, x.merged(0, 2, 0, 1, OURS));
        Check.due("one that is not there, as theirs", 7, x.merged(0, 2, 0, 1, THEIRS));
        Check.refused("merge(0, 2, NONE)", Check.STATE, x, () -> x.merge(0, 2, NONE));
        Check.due("merge(0, 2, THEIRS)", 8, x.merge(0, 2, THEIRS));
        Check.due("value(8, 0, 0)", 5, x.value(8, 0, 0));
        Check.due("value(8, 0, 1)", 7, x.value(8, 0, 1));
    }

    private static void promise12Merged() {
        Slidewarden x = twoSlides();
        x.set(0, 0, 0, 11);
        x.set(1, 0, 0, 12);
        x.set(0, 0, 1, 0);
        x.set(1, 0, 2, 13);
        x.set(0, 1, 2, 31);
        x.set(1, 1, 2, 31);
        int fresh = x.add(1, 0);
        int own = x.add(0, 0);
        x.set(1, fresh, 0, 77);
        Check.due("a clash as ours", 11, x.merged(0, 1, 0, 0, OURS));
        Check.due("a clash as theirs", 12, x.merged(0, 1, 0, 0, THEIRS));
        Check.due("a clash as ours, the other way", 12, x.merged(1, 0, 0, 0, OURS));
        Check.due("a clash as theirs, the other way", 11, x.merged(1, 0, 0, 0, THEIRS));
        for (int settled = OURS; settled <= THEIRS; settled++) {
            Check.due("gone in ours", 0, x.merged(0, 1, 0, 1, settled));
            Check.due("gone in theirs", 0, x.merged(1, 0, 0, 1, settled));
            Check.due("changed in theirs", 13, x.merged(0, 1, 0, 2, settled));
            Check.due("changed in ours", 13, x.merged(1, 0, 0, 2, settled));
            Check.due("in neither", 0, x.merged(0, 1, 0, 3, settled));
            Check.due("changed alike", 31, x.merged(0, 1, 1, 2, settled));
            Check.due("as in the base", 40, x.merged(0, 1, 1, 3, settled));
            Check.due("new in theirs", 77, x.merged(0, 1, fresh, 0, settled));
            Check.due("new in ours", 0, x.merged(0, 1, own, 0, settled));
        }
        Check.refused("no such slide", Check.INDEX, x, () -> x.merged(0, 1, 4, 0, OURS));
        Check.refused("no such slide", Check.INDEX, x, () -> x.merged(0, 1, -1, 0, OURS));
        Check.refused("no such object", Check.INDEX, x, () -> x.merged(0, 1, 0, 4, OURS));
        Check.refused("no such object", Check.INDEX, x, () -> x.merged(0, 1, 0, -1, OURS));
        Check.refused("settled NONE", Check.ARGUMENT, x, () -> x.merged(0, 1, 0, 0, NONE));
        Check.refused("settled 2", Check.ARGUMENT, x, () -> x.merged(0, 1, 0, 0, 2));
        Check.refused("the same branch", Check.ARGUMENT, x, () -> x.merged(1, 1, 0, 0, OURS));
        Check.refused("the same branch, no slide", Check.INDEX, x, () -> x.merged(1, 1, 4, 0, OURS));
        Check.refused("the same branch, no object", Check.INDEX, x, () -> x.merged(1, 1, 0, 4, OURS));
        Check.refused("settled 2, no object", Check.INDEX, x, () -> x.merged(0, 1, 0, 4, 2));
    }

    private static void promise12MergedOfDroppedSlides() {
        Slidewarden x = twoSlides();
        x.drop(0, 0);
        x.drop(1, 1);
        for (int settled = OURS; settled <= THEIRS; settled++) {
            Check.due("dropped in ours", NONE, x.merged(0, 1, 0, 0, settled));
            Check.due("dropped in theirs", NONE, x.merged(0, 1, 1, 2, settled));
        }
        x.set(1, 0, 3, 9);
        Check.due("dropped, changed there, as ours", NONE, x.merged(0, 1, 0, 0, OURS));
        Check.due("as theirs, an object that changed", 9, x.merged(0, 1, 0, 3, THEIRS));
        Check.due("as theirs, one that did not", 10, x.merged(0, 1, 0, 0, THEIRS));
        Check.due("as theirs, one that is not there", 0, x.merged(0, 1, 0, 2, THEIRS));
        Check.due("the other way, as ours", 10, x.merged(1, 0, 0, 0, OURS));
        Check.due("the other way, as theirs", NONE, x.merged(1, 0, 0, 0, THEIRS));
        x.drop(1, 0);
        Check.due("dropped in both", NONE, x.merged(0, 1, 0, 0, OURS));
        x.branch(0);
        x.drop(2, x.add(2, 0));
        Check.due("neither the base nor a head has it", NONE, x.merged(0, 1, 2, 0, THEIRS));
    }

    private static void promise12MergedOfMoreThanADeck() {
        Slidewarden x = new Slidewarden();
        x.branch(0);
        for (int place = 0; place < 8; place++) {
            x.set(0, x.add(0, place), 1, 100 + place);
            x.set(1, x.add(1, place), 2, 200 + place);
        }
        for (int place = 0; place < 8; place++) {
            Check.due("ours of 16", 100 + place, x.merged(0, 1, 2 * place, 1, OURS));
            Check.due("theirs of 16", 200 + place, x.merged(0, 1, 2 * place + 1, 2, OURS));
        }
        Check.due("clashes(0, 1)", 0, x.clashes(0, 1));
        Check.refused("a deck of 16", Check.STATE, x, () -> x.merge(0, 1, NONE));
    }

    private static void promise13Merge() {
        Slidewarden x = twoSlides();
        x.branch(6);
        x.set(0, 0, 0, 11);
        x.set(1, 0, 0, 12);
        x.set(1, 0, 1, 22);
        x.set(2, 1, 3, 44);
        Check.refused("clashes, not settled", Check.STATE, x, () -> x.merge(0, 1, NONE));
        Check.refused("settled 2", Check.ARGUMENT, x, () -> x.merge(0, 1, 2));
        Check.refused("settled -2", Check.ARGUMENT, x, () -> x.merge(0, 1, -2));
        Check.due("settled as ours", 11, x.merge(0, 1, OURS));
        Check.due("head(0)", 11, x.head(0));
        Check.due("head(1)", 8 + 1, x.head(1));
        Check.due("value(11, 0, 0)", 11, x.value(11, 0, 0));
        Check.due("value(11, 0, 1)", 22, x.value(11, 0, 1));
        Check.due("value(11, 1, 2)", 30, x.value(11, 1, 2));
        Check.due("without a clash", 12, x.merge(2, 0, NONE));
        Check.due("value(12, 1, 3)", 44, x.value(12, 1, 3));
        Check.due("value(12, 0, 0)", 11, x.value(12, 0, 0));
        x.set(1, 1, 3, 45);
        Check.due("settled as theirs", 14, x.merge(2, 1, THEIRS));
        Check.due("value(14, 1, 3)", 45, x.value(14, 1, 3));
        Check.due("value(14, 0, 0), no clash by now", 11, x.value(14, 0, 0));
        Check.due("the deck before", 44, x.value(12, 1, 3));
        Check.due("the other branch's deck", 12, x.value(x.head(1), 0, 0));
    }

    private static void promise13MergeOfDroppedSlides() {
        Slidewarden x = twoSlides();
        x.branch(6);
        x.drop(0, 0);
        x.set(1, 0, 0, 11);
        x.set(1, 0, 3, 9);
        Check.refused("a slide's clash, not settled", Check.STATE, x, () -> x.merge(0, 1, NONE));
        Check.due("dropped, unchanged there", 10, x.merge(2, 0, NONE));
        Check.due("the deck without it", "1", Check.order(x, 10));
        Check.due("settled as ours", 11, x.merge(2, 1, OURS));
        Check.due("the deck without it", "1", Check.order(x, 11));
        Check.due("settled as theirs", 12, x.merge(0, 1, THEIRS));
        Check.due("the deck with it, at the end", "1 0", Check.order(x, 12));
        Check.due("value(12, 0, 0)", 11, x.value(12, 0, 0));
        Check.due("value(12, 0, 1)", 20, x.value(12, 0, 1));
        Check.due("value(12, 0, 2)", 0, x.value(12, 0, 2));
        Check.due("value(12, 0, 3)", 9, x.value(12, 0, 3));
        Check.due("value(12, 1, 2)", 30, x.value(12, 1, 2));
    }

    private static void promise13OrderOfSlides() {
        Slidewarden x = new Slidewarden();
        x.add(0, 0);
        x.add(0, 1);
        x.branch(2);
        x.add(0, 0);
        x.add(1, 0);
        x.add(1, 1);
        x.add(0, 2);
        x.drop(1, 0);
        Check.due("ours", "2 0 5 1", Check.order(x, x.head(0)));
        Check.due("theirs", "3 4 1", Check.order(x, x.head(1)));
        x.branch(x.head(0));
        Check.due("merge(0, 1, NONE)", 8, x.merge(0, 1, NONE));
        Check.due("ours, then theirs", "2 5 1 3 4", Check.order(x, 8));
        Check.due("merge(1, 2, NONE)", 9, x.merge(1, 2, NONE));
        Check.due("the other way round", "3 4 1 2 5", Check.order(x, 9));
        Check.due("merge(1, 0, NONE)", 10, x.merge(1, 0, NONE));
        Check.due("the order stays", "3 4 1 2 5", Check.order(x, 10));
    }

    private static void promise13AncestorHeads() {
        Slidewarden x = new Slidewarden();
        x.branch(0);
        x.add(0, 0);
        x.set(0, 0, 0, 4);
        Check.due("from a head ahead", 3, x.merge(1, 0, NONE));
        Check.due("value(3, 0, 0)", 4, x.value(3, 0, 0));
        Check.due("about(3, 1)", 0, x.about(3, 1));
        Check.due("about(3, 2)", 2, x.about(3, 2));
        Check.due("into a head ahead", 4, x.merge(1, 0, NONE));
        Check.due("about(4, 1)", 3, x.about(4, 1));
        Check.due("about(4, 2)", 2, x.about(4, 2));
        Check.due("about(4, 4)", 5, x.about(4, 4));
        Check.due("value(4, 0, 0)", 4, x.value(4, 0, 0));
    }

    private static void promise13TooManySlides() {
        Slidewarden x = new Slidewarden();
        x.add(0, 0);
        x.add(0, 1);
        x.branch(2);
        for (int place = 2; place < 6; place++) {
            x.add(0, place);
        }
        x.add(1, 2);
        x.add(1, 3);
        x.branch(x.head(1));
        x.add(2, 4);
        Check.due("eight slides", 10, x.merge(0, 1, NONE));
        Check.due("the deck", "0 1 2 3 4 5 6 7", Check.order(x, 10));
        Check.refused("nine slides", Check.STATE, x, () -> x.merge(0, 2, NONE));
        Check.refused("nine slides", Check.STATE, x, () -> x.merge(2, 0, THEIRS));
        x.drop(2, 1);
        Check.due("one of them is gone", 12, x.merge(0, 2, NONE));
        Check.due("the deck", "0 2 3 4 5 6 7 8", Check.order(x, 12));
        x.branch(10);
        x.set(3, 1, 0, 1);
        Check.refused("nine with a settled one", Check.STATE, x, () -> x.merge(0, 3, THEIRS));
        Check.refused("a clash, not settled", Check.STATE, x, () -> x.merge(0, 3, NONE));
        Check.due("eight without it", 14, x.merge(0, 3, OURS));
    }

    private static void promise13Blocked() {
        Slidewarden x = twoSlides();
        x.set(0, 0, 0, 50);
        x.set(1, 0, 0, 60);
        x.set(1, 0, 1, 25);
        x.rule(0, 0, 1, 55);
        x.rule(2, 0, 1, 1);
        Check.refused("blocked by the rank 0", Check.STATE, x, () -> x.merge(0, 1, THEIRS));
        Check.due("not blocked as ours; the rank 2 warns", 10, x.merge(0, 1, OURS));
        x.rule(1, 1, 1, 24);
        Check.refused("blocked by the rank 1", Check.STATE, x, () -> x.merge(0, 1, OURS));
        x.waive(2, 1, 999);
        Check.refused("waived for another slide", Check.STATE, x, () -> x.merge(0, 1, OURS));
        x.waive(2, 0, 1);
        x.pass(1);
        Check.due("waived", 11, x.merge(0, 1, OURS));
        x.pass(1);
        Check.refused("not waived any more", Check.STATE, x, () -> x.merge(0, 1, OURS));
        x.set(0, 0, 1, 24);
        Check.due("edits are not refused", 24, x.set(0, 0, 1, 25));
        Check.due("blocked by an edit", 1, x.blocks(x.head(0)));
    }

    private static void wrongBranches() {
        Slidewarden x = twoSlides();
        int[][] pairs = {{0, 2}, {2, 0}, {0, -1}, {-1, 0}, {2, 2}, {-1, -1}};
        for (int[] pair : pairs) {
            int into = pair[0];
            int from = pair[1];
            Check.refused("base", Check.INDEX, x, () -> x.base(into, from));
            Check.refused("clashes", Check.INDEX, x, () -> x.clashes(into, from));
            Check.refused("merged", Check.INDEX, x, () -> x.merged(into, from, 0, 0, 5));
            Check.refused("merge", Check.INDEX, x, () -> x.merge(into, from, 5));
        }
        Check.refused("base(1, 1)", Check.ARGUMENT, x, () -> x.base(1, 1));
        Check.refused("clashes(0, 0)", Check.ARGUMENT, x, () -> x.clashes(0, 0));
        Check.refused("merge(1, 1, OURS)", Check.ARGUMENT, x, () -> x.merge(1, 1, OURS));
    }
}
