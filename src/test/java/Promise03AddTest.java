/** The promise 3: add. */
public final class Promise03AddTest {
    /** The slides 0 to 7 on the branch 0, 8 to 15 on the branch 1, 16 to 18 on the branch 2; the version 20. */
    private static final String NINETEEN_SLIDES = Script.times(8, "add 0 0") + "branch 0\n"
            + Script.times(8, "add 1 0") + "branch 0\n" + Script.times(3, "add 2 0") + "drop 2 16\n";

    public static void main(String[] args) {
        addsASlideWithoutObjects();
        branchItsNumber();
        placeZeroToHowManySlidesTheHeadHas();
        placeOfTheHeadNotOfAnotherVersion();
        theOneThatItHasThen();
        returnsItsNumber();
        slidesKeepTheirNumbers();
        makesANewVersion();
        throwsStateIfTheHeadHas8Slides();
        throwsStateIfThereWere20Slides();
        throwsStateIfThereAre40Versions();
        theFirstNamedIsThrown();
        Check.end("Promise03AddTest");
    }

    private static void addsASlideWithoutObjects() {
        Script.test("promise 3, \"Adds a slide without objects\"", """
                add 0 0 = 0
                objects 1 0 = 0 0 0 0
                set 0 0 0 10
                set 0 0 1 20
                set 0 0 2 30
                set 0 0 3 40
                # in front of one with objects, and behind it
                add 0 0 = 1
                objects 6 1 = 0 0 0 0
                objects 6 0 = 10 20 30 40
                add 0 2 = 2
                objects 7 2 = 0 0 0 0
                objects 7 0 = 10 20 30 40
                # at the place of one with objects that was dropped
                set 0 2 3 7
                drop 0 2 = 9
                add 0 2 = 3
                objects 10 3 = 0 0 0 0
                drop 0 0 = 11
                add 0 1 = 4
                deck 12 = 1 4 3
                objects 12 4 = 0 0 0 0
                """);
    }

    private static void branchItsNumber() {
        Script.test("promise 3, \"Throws IndexOutOfBoundsException if there is no such branch\"", """
                add -1 0 ! INDEX
                add 1 0 ! INDEX
                add LEAST 0 ! INDEX
                add MOST 0 ! INDEX
                add 0 0 = 0
                branch 0 = 1
                add 2 0 ! INDEX
                add 1 0 = 1
                branch 0
                branch 0
                branch 0
                branch 0 = 5
                add 6 0 ! INDEX
                add 5 0 = 2
                deck 3 = 2
                """);
    }

    private static void placeZeroToHowManySlidesTheHeadHas() {
        Script.test("promise 3, \"place: 0 to how many slides the head has\", \"no such .. place\"", """
                add 0 -1 ! INDEX
                add 0 1 ! INDEX
                add 0 0 = 0
                add 0 -1 ! INDEX
                add 0 2 ! INDEX
                add 0 1 = 1
                add 0 LEAST ! INDEX
                add 0 MOST ! INDEX
                add 0 3 ! INDEX
                add 0 1 = 2
                deck 3 = 0 2 1
                add 0 4 ! INDEX
                add 0 3 = 3
                deck 4 = 0 2 1 3
                add 0 4 = 4
                add 0 5 = 5
                add 0 6 = 6
                # seven slides
                add 0 8 ! INDEX
                add 0 -1 ! INDEX
                add 0 7 = 7
                deck 8 = 0 2 1 3 4 5 6 7
                """);
    }

    private static void placeOfTheHeadNotOfAnotherVersion() {
        Script.test("promise 3, \"place: 0 to how many slides the head has\", each branch its own", """
                add 0 0
                add 0 0
                branch 0 = 1
                branch 1 = 2
                add 1 1 ! INDEX
                add 2 2 ! INDEX
                add 0 3 ! INDEX
                add 1 0 = 2
                add 2 1 = 3
                add 0 2 = 4
                drop 0 4
                add 0 3 ! INDEX
                add 0 2 = 5
                deck 7 = 1 0 5
                """);
    }

    private static void theOneThatItHasThen() {
        Script.test("promise 3, \"place: .. the one that it has then\"", """
                add 0 0 = 0
                set 0 0 2 5
                add 0 0 = 1
                slideAt 3 0 = 1
                deck 3 = 1 0
                set 0 1 1 6
                add 0 1 = 2
                slideAt 5 1 = 2
                deck 5 = 1 2 0
                add 0 3 = 3
                slideAt 6 3 = 3
                deck 6 = 1 2 0 3
                add 0 0 = 4
                slideAt 7 0 = 4
                deck 7 = 4 1 2 0 3
                objects 7 0 = 0 0 5 0
                objects 7 1 = 0 6 0 0
                objects 7 2 = 0 0 0 0
                objects 7 3 = 0 0 0 0
                # the decks before are as they were
                deck 0 =
                deck 1 = 0
                deck 5 = 1 2 0
                """);
    }

    private static void returnsItsNumber() {
        Script.test("promise 3, \"Slides are numbered from 0 as they are added anywhere\"", """
                add 0 0 = 0
                branch 0 = 1
                add 1 0 = 1
                add 0 1 = 2
                # a call that is refused takes no number, nor is one given again
                add 0 9 ! INDEX
                drop 0 2
                add 0 0 = 3
                add 1 1 = 4
                deck 5 = 3 0
                deck 6 = 1 4
                """);
    }

    private static void slidesKeepTheirNumbers() {
        Script.test("promise 3, \"and keep their numbers in all versions\"", """
                add 0 0 = 0
                set 0 0 0 5
                add 0 0 = 1
                branch 3 = 1
                add 1 0 = 2
                drop 0 1
                merge 0 1 NONE = 6
                deck 1 = 0
                deck 3 = 1 0
                deck 4 = 2 1 0
                deck 5 = 0
                deck 6 = 0 2
                objects 6 0 = 5 0 0 0
                """);
    }

    private static void makesANewVersion() {
        Script.test("promise 3, \"Each edit of a branch makes a new version, with the head as what it came from\"", """
                add 0 0
                head 0 = 1
                about 1 0 = 0
                about 1 1 = 0
                about 1 2 = NONE
                branch 0 = 1
                add 1 0
                head 1 = 2
                head 0 = 1
                about 2 0 = 1
                about 2 1 = 0
                add 0 1
                head 0 = 3
                about 3 0 = 0
                about 3 1 = 1
                about 4 0 ! INDEX
                """);
    }

    private static void throwsStateIfTheHeadHas8Slides() {
        Script.test("promise 3, \"Throws IllegalStateException if the head has 8 slides\"",
                Script.times(7, "add 0 0"), """
                # there are 7
                add 0 7 = 7
                about 8 3 = 8
                # there are 8
                add 0 0 ! STATE
                add 0 4 ! STATE
                add 0 7 ! STATE
                add 0 8 ! STATE
                deck 8 = 6 5 4 3 2 1 0 7
                # another head has 7
                branch 7 = 1
                add 1 0 = 8
                deck 9 = 8 6 5 4 3 2 1 0
                add 1 0 ! STATE
                # and this one 7 again
                drop 0 3 = 10
                add 0 7 = 9
                deck 11 = 6 5 4 2 1 0 7 9
                add 0 8 ! STATE
                """);
    }

    private static void throwsStateIfThereWere20Slides() {
        Script.test("promise 3, \"Throws IllegalStateException if .. there were 20 slides\"", NINETEEN_SLIDES, """
                # there were 19
                value 0 18 0 = NONE
                value 0 19 0 ! INDEX
                add 2 2 = 19
                deck 21 = 18 17 19
                # there were 20
                value 0 19 0 = NONE
                value 0 20 0 ! INDEX
                add 2 0 ! STATE
                add 2 3 ! STATE
                branch 0 = 3
                # in an empty deck, and though some were dropped
                add 3 0 ! STATE
                drop 2 17
                drop 2 19
                add 2 0 ! STATE
                add 2 1 ! STATE
                # other edits can be made
                set 2 18 0 5 = 0
                objects 24 18 = 5 0 0 0
                head 3 = 0
                """);
    }

    private static void throwsStateIfThereAre40Versions() {
        Script.test("promise 3, \"Throws IllegalStateException if .. there are 40 versions\"", """
                add 0 0
                """ + Script.times(37, "set 0 0 0 1") + """
                # there are 39
                head 0 = 38
                add 0 0 = 1
                # there are 40
                head 0 = 39
                deck 39 = 1 0
                add 0 0 ! STATE
                add 0 2 ! STATE
                branch 0 = 1
                add 1 0 ! STATE
                head 0 = 39
                head 1 = 0
                value 0 2 0 ! INDEX
                about 40 0 ! INDEX
                """);
    }

    private static void theFirstNamedIsThrown() {
        Script.test("promise 3: no such branch or place, and the head has 8 slides", Script.times(8, "add 0 0"), """
                add 0 9 ! INDEX
                add 0 -1 ! INDEX
                add 1 0 ! INDEX
                add -1 0 ! INDEX
                add 0 8 ! STATE
                """);
        Script.test("promise 3: no such branch or place, and there were 20 slides", NINETEEN_SLIDES, """
                add 2 0 = 19
                add 2 4 ! INDEX
                add 2 -1 ! INDEX
                add 3 0 ! INDEX
                add 2 3 ! STATE
                """);
        Script.test("promise 3: no such branch or place, and there are 40 versions", """
                add 0 0
                """ + Script.times(38, "set 0 0 0 1") + """
                add 0 2 ! INDEX
                add 0 -1 ! INDEX
                add 1 0 ! INDEX
                add 0 1 ! STATE
                """);
    }
}
