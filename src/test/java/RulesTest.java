/** The promises 14 to 19: rule, tighten, waive, blocks, warnings, firstBlock. */
public final class RulesTest {
    private static final int NONE = Slidewarden.NONE;

    public static void main(String[] args) {
        promise14Rule();
        promise15Tighten();
        promise15TightenCounts();
        promise16Waive();
        promise16WaiversEnd();
        promise17Blocks();
        promise18Warnings();
        promise19FirstBlock();
        fullDecks();
        firstRuleWarns();
        Check.end("RulesTest");
    }

    /** The slides 1, 0, 2 in this order, the head is the version 6. */
    private static Slidewarden threeSlides() {
        Slidewarden x = new Slidewarden();
        x.add(0, 0);
        x.add(0, 0);
        x.add(0, 2);
        x.set(0, 0, 0, 50);
        x.set(0, 1, 0, 60);
        x.set(0, 2, 1, 70);
        return x;
    }

    private static void promise14Rule() {
        Slidewarden x = threeSlides();
        Check.refused("rule(-1, 0, 1, 1)", Check.INDEX, x, () -> x.rule(-1, 0, 1, 1));
        Check.refused("rule(3, 0, 1, 1)", Check.INDEX, x, () -> x.rule(3, 0, 1, 1));
        Check.refused("rule(0, -1, 1, 1)", Check.INDEX, x, () -> x.rule(0, -1, 1, 1));
        Check.refused("rule(0, 4, 1, 1)", Check.INDEX, x, () -> x.rule(0, 4, 1, 1));
        Check.refused("rule(0, 0, 0, 1)", Check.ARGUMENT, x, () -> x.rule(0, 0, 0, 1));
        Check.refused("rule(0, 0, 2, 1)", Check.ARGUMENT, x, () -> x.rule(0, 0, 2, 1));
        Check.refused("rule(0, 0, 1, 1000)", Check.ARGUMENT, x, () -> x.rule(0, 0, 1, 1000));
        Check.refused("rule(0, 0, 1000, 1000)", Check.ARGUMENT, x, () -> x.rule(0, 0, 1000, 1000));
        Check.refused("rule(0, 4, 0, 1)", Check.INDEX, x, () -> x.rule(0, 4, 0, 1));
        Check.due("rule(0, 0, 1, 999)", 0, x.rule(0, 0, 1, 999));
        Check.due("rule(1, 3, 999, 999)", 1, x.rule(1, 3, 999, 999));
        Check.due("rule(2, 2, 1, 1)", 2, x.rule(2, 2, 1, 1));
        Check.due("blocks(6), none yet", 0, x.blocks(6));
        Check.due("rule(0, 0, 50, 50)", 3, x.rule(0, 0, 50, 50));
        Check.due("blocks(6)", 1, x.blocks(6));
        for (int number = 4; number < 8; number++) {
            Check.due("rule(2, 1, 1, 69)", number, x.rule(2, 1, 1, 69));
        }
        Check.due("warnings(6)", 4, x.warnings(6));
        Check.refused("a ninth", Check.STATE, x, () -> x.rule(0, 0, 1, 1));
        Check.refused("a ninth, no least", Check.ARGUMENT, x, () -> x.rule(0, 0, 0, 1));
        Check.refused("a ninth, no rank", Check.INDEX, x, () -> x.rule(3, 0, 1, 1));
    }

    private static void promise15Tighten() {
        Slidewarden x = threeSlides();
        x.rule(0, 0, 40, 70);
        Check.refused("tighten(1, 40, 70)", Check.INDEX, x, () -> x.tighten(1, 40, 70));
        Check.refused("tighten(-1, 40, 70)", Check.INDEX, x, () -> x.tighten(-1, 40, 70));
        Check.refused("tighten(1, 0, 1000)", Check.INDEX, x, () -> x.tighten(1, 0, 1000));
        Check.refused("tighten(0, 39, 70)", Check.ARGUMENT, x, () -> x.tighten(0, 39, 70));
        Check.refused("tighten(0, 40, 71)", Check.ARGUMENT, x, () -> x.tighten(0, 40, 71));
        Check.refused("tighten(0, 60, 59)", Check.ARGUMENT, x, () -> x.tighten(0, 60, 59));
        Check.refused("tighten(0, 71, 71)", Check.ARGUMENT, x, () -> x.tighten(0, 71, 71));
        Check.refused("tighten(0, 39, 39)", Check.ARGUMENT, x, () -> x.tighten(0, 39, 39));
        Check.due("tighten(0, 40, 70), as it is", 0, x.tighten(0, 40, 70));
        Check.due("tighten(0, 50, 60), all keep to it", 0, x.tighten(0, 50, 60));
        Check.refused("tighten(0, 49, 60)", Check.ARGUMENT, x, () -> x.tighten(0, 49, 60));
        Check.refused("tighten(0, 50, 61)", Check.ARGUMENT, x, () -> x.tighten(0, 50, 61));
        Check.due("tighten(0, 51, 60)", 3, x.tighten(0, 51, 60));
        Check.due("blocks(6)", 1, x.blocks(6));
        Check.due("tighten(0, 51, 51), blocked already", 0, x.tighten(0, 51, 51));
        Check.due("blocks(6)", 2, x.blocks(6));
        Check.refused("tighten(0, 52, 52)", Check.ARGUMENT, x, () -> x.tighten(0, 52, 52));
    }

    private static void promise15TightenCounts() {
        Slidewarden x = threeSlides();
        x.rule(2, 0, 1, 999);
        x.rule(1, 0, 1, 999);
        x.rule(0, 1, 1, 69);
        Check.due("only the version 6", 0, x.blocks(5) + x.blocks(4));
        Check.due("of the rank 2", 0, x.tighten(0, 1, 1));
        x.waive(1, 1, 0);
        Check.due("waived for the slide 1", 0, x.tighten(1, 1, 59));
        Check.due("the version 6 was blocked", 2, x.tighten(1, 51, 59));
        x.pass(1);
        Check.due("blocks(5), waived no more", 2, x.blocks(5));
        Check.due("nothing more", 0, x.tighten(1, 55, 55));
    }

    private static void promise16Waive() {
        Slidewarden x = threeSlides();
        x.rule(0, 0, 1, 999);
        x.rule(1, 0, 1, 10);
        x.rule(2, 0, 1, 999);
        x.pass(5);
        Check.refused("waive(3, 0, 5)", Check.INDEX, x, () -> x.waive(3, 0, 5));
        Check.refused("waive(-1, 0, 5)", Check.INDEX, x, () -> x.waive(-1, 0, 5));
        Check.refused("waive(1, 3, 5)", Check.INDEX, x, () -> x.waive(1, 3, 5));
        Check.refused("waive(1, -1, 5)", Check.INDEX, x, () -> x.waive(1, -1, 5));
        Check.refused("waive(1, 0, 4)", Check.ARGUMENT, x, () -> x.waive(1, 0, 4));
        Check.refused("waive(1, 0, 1000)", Check.ARGUMENT, x, () -> x.waive(1, 0, 1000));
        Check.refused("waive(0, 0, 5)", Check.STATE, x, () -> x.waive(0, 0, 5));
        Check.refused("waive(2, 0, 5)", Check.STATE, x, () -> x.waive(2, 0, 5));
        Check.refused("waive(0, 0, 4)", Check.ARGUMENT, x, () -> x.waive(0, 0, 4));
        Check.refused("waive(0, 3, 4)", Check.INDEX, x, () -> x.waive(0, 3, 4));
        Check.due("blocks(6)", 2, x.blocks(6));
        Check.due("waive(1, 0, 5)", 0, x.waive(1, 0, 5));
        Check.due("blocks(6)", 1, x.blocks(6));
        Check.due("waive(1, 0, 999), once more", 1, x.waive(1, 0, 999));
        Check.due("blocks(6)", 1, x.blocks(6));
        x.drop(0, 1);
        Check.due("a slide of no head", 2, x.waive(1, 1, 999));
        Check.due("blocks(6)", 0, x.blocks(6));
        for (int number = 3; number < 12; number++) {
            Check.due("waive(1, 2, 6)", number, x.waive(1, 2, 6));
        }
        Check.refused("a thirteenth", Check.STATE, x, () -> x.waive(1, 2, 6));
        Check.refused("a thirteenth, too early", Check.ARGUMENT, x, () -> x.waive(1, 2, 4));
        Check.refused("a thirteenth, no slide", Check.INDEX, x, () -> x.waive(1, 3, 6));
    }

    private static void promise16WaiversEnd() {
        Slidewarden x = threeSlides();
        x.rule(1, 0, 1, 59);
        x.rule(1, 0, 1, 59);
        Check.due("by two rules", 2, x.blocks(6));
        x.waive(0, 1, 0);
        Check.due("one is waived", 1, x.blocks(6));
        x.waive(1, 1, 2);
        Check.due("both are waived", 0, x.blocks(6));
        x.pass(1);
        Check.due("the first ended", 1, x.blocks(6));
        x.waive(0, 1, 1);
        Check.due("until today", 0, x.blocks(6));
        x.pass(1);
        Check.due("the last day of the second", 1, x.blocks(6));
        x.pass(1);
        Check.due("all ended", 2, x.blocks(6));
        x.waive(0, 0, 999);
        Check.due("for another slide", 2, x.blocks(6));
    }

    private static void promise17Blocks() {
        Slidewarden x = threeSlides();
        Check.due("blocks(6), no rules", 0, x.blocks(6));
        x.rule(0, 0, 1, 55);
        x.rule(0, 0, 56, 999);
        Check.due("one each", 2, x.blocks(6));
        x.rule(1, 0, 1, 49);
        Check.due("both slides break it", 4, x.blocks(6));
        x.rule(2, 0, 1, 1);
        Check.due("warnings do not block", 4, x.blocks(6));
        x.rule(0, 1, 71, 71);
        Check.due("another object", 5, x.blocks(6));
        x.rule(0, 3, 5, 5);
        Check.due("an object that is not there", 5, x.blocks(6));
        Check.due("blocks(4)", 2, x.blocks(4));
        Check.due("blocks(0)", 0, x.blocks(0));
        x.drop(0, 0);
        Check.due("a slide less", 3, x.blocks(7));
        Check.due("blocks(6), as before", 5, x.blocks(6));
        x.waive(2, 1, 0);
        Check.due("a waiver", 2, x.blocks(7));
        Check.due("a waiver, in all versions", 4, x.blocks(6));
        Check.refused("blocks(8)", Check.INDEX, x, () -> x.blocks(8));
        Check.refused("blocks(-1)", Check.INDEX, x, () -> x.blocks(-1));
    }

    private static void promise18Warnings() {
        Slidewarden x = threeSlides();
        x.rule(0, 0, 1, 1);
        x.rule(1, 0, 1, 1);
        Check.due("no others", 0, x.warnings(6));
        x.rule(2, 0, 1, 50);
        Check.due("one slide", 1, x.warnings(6));
        x.rule(2, 0, 60, 60);
        Check.due("another rule", 2, x.warnings(6));
        x.tighten(2, 1, 49);
        Check.due("tightened", 3, x.warnings(6));
        x.rule(2, 1, 71, 999);
        Check.due("another object", 4, x.warnings(6));
        Check.due("warnings(5)", 3, x.warnings(5));
        Check.due("warnings(4)", 2, x.warnings(4));
        Check.due("warnings(3)", 0, x.warnings(3));
        Check.refused("warnings(7)", Check.INDEX, x, () -> x.warnings(7));
        Check.refused("warnings(-1)", Check.INDEX, x, () -> x.warnings(-1));
    }

    private static void promise19FirstBlock() {
        Slidewarden x = threeSlides();
        Check.due("firstBlock(6), no rules", NONE, x.firstBlock(6));
        x.rule(2, 0, 1, 1);
        Check.due("a warning", NONE, x.firstBlock(6));
        x.rule(0, 1, 71, 71);
        Check.due("the slide 2", 2, x.firstBlock(6));
        x.rule(1, 0, 55, 55);
        Check.due("by the order of the deck", 1, x.firstBlock(6));
        x.waive(2, 1, 0);
        Check.due("waived for the slide 1", 0, x.firstBlock(6));
        x.pass(1);
        Check.due("no more", 1, x.firstBlock(6));
        Check.due("firstBlock(4)", 0, x.firstBlock(4));
        Check.due("firstBlock(3)", NONE, x.firstBlock(3));
        Check.refused("firstBlock(7)", Check.INDEX, x, () -> x.firstBlock(7));
        Check.refused("firstBlock(-1)", Check.INDEX, x, () -> x.firstBlock(-1));
    }

    /** A full deck, and the same one without its last slide, the only one with a value. */
    private static void fullDecks() {
        Slidewarden x = new Slidewarden();
        for (int place = 0; place < 8; place++) {
            x.add(0, place);
        }
        x.set(0, 7, 3, 9);
        x.rule(0, 3, 1, 8);
        x.rule(2, 3, 1, 8);
        Check.due("blocks(9)", 1, x.blocks(9));
        Check.due("warnings(9)", 1, x.warnings(9));
        Check.due("firstBlock(9)", 7, x.firstBlock(9));
        Check.due("firstBlock(8), nothing blocks", NONE, x.firstBlock(8));
        x.drop(0, 7);
        Check.due("blocks(10)", 0, x.blocks(10));
        Check.due("warnings(10)", 0, x.warnings(10));
        Check.due("firstBlock(10)", NONE, x.firstBlock(10));
    }

    private static void firstRuleWarns() {
        Slidewarden x = threeSlides();
        x.rule(2, 1, 1, 69);
        Check.due("the rule 0 warns", 1, x.warnings(6));
        Check.due("and does not block", 0, x.blocks(6));
    }
}
