/** The promise 1: a new object. */
public final class Promise01NewObjectTest {
    public static void main(String[] args) {
        theVersion0();
        theVersion0IsAnEmptyDeck();
        theBranch0();
        theDay0();
        noRules();
        nothingElse();
        eachObjectIsItsOwn();
        Check.end("Promise01NewObjectTest");
    }

    private static void theVersion0() {
        Script.test("promise 1, \"The version 0\"", """
                about 0 3 = 0
                about -1 3 ! INDEX
                about 1 3 ! INDEX
                about LEAST 3 ! INDEX
                about MOST 3 ! INDEX
                branch 1 ! INDEX
                branch 0 = 1
                add 0 0
                about 1 3 = 1
                about 2 3 ! INDEX
                """);
    }

    private static void theVersion0IsAnEmptyDeck() {
        Script.test("promise 1, \"the version 0 is an empty deck, made on the branch 0\"", """
                about 0 0 = 0
                about 0 1 = NONE
                about 0 2 = NONE
                about 0 3 = 0
                about 0 4 = 1
                slideAt 0 0 = NONE
                deck 0 =
                blocks 0 = 0
                warnings 0 = 0
                firstBlock 0 = NONE
                # and it stays as it is
                add 0 0 = 0
                set 0 0 0 7
                rule 0 0 1 1
                deck 0 =
                value 0 0 0 = NONE
                blocks 0 = 0
                about 0 1 = NONE
                about 0 4 = 1
                """);
    }

    private static void theBranch0() {
        Script.test("promise 1, \"the branch 0\", \"the branch 0 has the head 0 at first\"", """
                head 0 = 0
                head -1 ! INDEX
                head 1 ! INDEX
                shown 0 = NONE
                add 1 0 ! INDEX
                branch 0 = 1
                head 1 = 0
                """);
    }

    private static void theDay0() {
        Script.test("promise 1, \"the day 0\": a day goes by", """
                pass 1 = 1
                """);
        Script.test("promise 1, \"the day 0\": today is the first day of a waiver, and the last one", """
                add 0 0
                set 0 0 0 2
                rule 1 0 1 1
                waive 0 0 -1 ! ARGUMENT
                blocks 2 = 1
                waive 0 0 0 = 0
                blocks 2 = 0
                pass 1 = 1
                blocks 2 = 1
                waive 0 0 0 ! ARGUMENT
                waive 0 0 1 = 1
                """);
    }

    private static void noRules() {
        Script.test("promise 1, \"no rules\"", """
                add 0 0
                set 0 0 0 999
                set 0 0 1 1
                tighten 0 1 999 ! INDEX
                tighten -1 1 999 ! INDEX
                waive 0 0 0 ! INDEX
                blocks 3 = 0
                warnings 3 = 0
                firstBlock 3 = NONE
                show 0 = 3
                rule 0 0 1 998 = 0
                blocks 3 = 1
                """);
    }

    private static void nothingElse() {
        Script.test("promise 1: no slide, no other branch, no waiver, nothing shown", """
                value 0 0 0 ! INDEX
                set 0 0 0 1 ! INDEX
                drop 0 0 ! INDEX
                base 0 1 ! INDEX
                shown 0 = NONE
                add 0 0 = 0
                rule 1 0 1 1 = 0
                waive 0 0 0 = 0
                branch 0 = 1
                shown 1 = NONE
                """);
    }

    private static void eachObjectIsItsOwn() {
        Slidewarden first = new Slidewarden();
        first.add(0, 0);
        first.set(0, 0, 0, 9);
        first.branch(1);
        first.rule(0, 1, 1, 8);
        first.show(0);
        first.pass(5);
        Slidewarden second = new Slidewarden();
        Check.due("promise 1: another object, head(0)", 0, second.head(0));
        Check.due("promise 1: another object, shown(0)", Slidewarden.NONE, second.shown(0));
        Check.due("promise 1: another object, branch(0)", 1, second.branch(0));
        Check.due("promise 1: another object, add(1, 0)", 0, second.add(1, 0));
        Check.due("promise 1: another object, rule(2, 0, 1, 1)", 0, second.rule(2, 0, 1, 1));
        Check.due("promise 1: another object, pass(1)", 1, second.pass(1));
        Check.due("promise 1: the first object, head(0)", 2, first.head(0));
        Check.due("promise 1: the first object, value(2, 0, 0)", 9, first.value(2, 0, 0));
        Check.due("promise 1: the first object, warnings(2)", 0, first.warnings(2));
        Check.due("promise 1: the first object, pass(1)", 6, first.pass(1));
    }
}
