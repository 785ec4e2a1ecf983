/** The promise 11: clashes. */
public final class Promise11ClashesTest {
    /** The slides 0 (10 20 0 0) and 1 (0 0 30 40), the version 6, the head of the branches 0 and 1. */
    private static final String TWO_SLIDES = """
            add 0 0
            add 0 1
            set 0 0 0 10
            set 0 0 1 20
            set 0 1 2 30
            set 0 1 3 40
            branch 6
            """;

    public static void main(String[] args) {
        noneIfNeitherDiffersFromTheBase();
        noneIfOneDiffersFromTheBase();
        noneIfBothDifferButAreAlike();
        oneIfBothDiffer();
        anyObject();
        noneIfTheBaseAndOneHeadDoNotHaveTheSlide();
        oneForAnObjectThatTheBaseDoesNotHave();
        noneIfNeitherHeadHasTheSlide();
        noneIfTheOtherOneHasAllObjectsAsInTheBase();
        oneForASlideThatOneHeadDoesNotHave();
        countsObjectsAndSlides();
        countsTheTwentiethSlide();
        countsWhatCouldNotBeMerged();
        changesNothing();
        throwsIndexIfThereIsNoSuchBranch();
        throwsArgumentIfBothAreTheSame();
        theFirstNamedIsThrown();
        Check.end("Promise11ClashesTest");
    }

    private static void noneIfNeitherDiffersFromTheBase() {
        Script.test("promise 11, \"as in the base, if neither differs from that\"", TWO_SLIDES, """
                clashes 0 1 = 0
                clashes 1 0 = 0
                set 0 0 0 10
                clashes 0 1 = 0
                set 1 0 0 11
                set 1 0 0 10
                clashes 0 1 = 0
                """);
        Script.test("promise 11: empty decks", """
                branch 0
                clashes 0 1 = 0
                clashes 1 0 = 0
                """);
    }

    private static void noneIfOneDiffersFromTheBase() {
        Script.test("promise 11, \"as in the one that differs, if one does\"", TWO_SLIDES, """
                set 0 0 0 11
                clashes 0 1 = 0
                clashes 1 0 = 0
                # another object of the same slide, and the same object of another one
                set 1 0 1 21
                set 1 1 0 1
                clashes 0 1 = 0
                clashes 1 0 = 0
                # an object that is gone
                set 0 1 3 0
                clashes 0 1 = 0
                clashes 1 0 = 0
                """);
    }

    private static void noneIfBothDifferButAreAlike() {
        Script.test("promise 11, \"if both differ, as in both, if they are alike\"", TWO_SLIDES, """
                set 0 0 0 11
                set 1 0 0 11
                clashes 0 1 = 0
                clashes 1 0 = 0
                set 0 0 1 0
                set 1 0 1 0
                clashes 0 1 = 0
                set 0 0 2 1
                set 1 0 2 1
                clashes 0 1 = 0
                # one step off it
                set 1 0 2 2
                clashes 0 1 = 1
                """);
    }

    private static void oneIfBothDiffer() {
        Script.test("promise 11, \"if both differ .. otherwise it is a clash\"", TWO_SLIDES, """
                set 0 0 0 11
                set 1 0 0 12
                clashes 0 1 = 1
                clashes 1 0 = 1
                # one of them as in the base again
                set 0 0 0 10
                clashes 0 1 = 0
                set 0 0 0 9
                clashes 0 1 = 1
                set 1 0 0 10
                clashes 0 1 = 0
                # gone, and changed
                set 1 0 0 0
                clashes 0 1 = 1
                set 0 0 0 0
                clashes 0 1 = 0
                # one that the base did not have
                set 0 1 0 999
                set 1 1 0 998
                clashes 0 1 = 1
                set 0 1 0 0
                clashes 0 1 = 0
                """);
    }

    private static void anyObject() {
        for (int object = 0; object < 4; object++) {
            Script.test("promise 11: a clash of the object " + object, TWO_SLIDES, """
                    set 0 0 OBJECT 5
                    clashes 0 1 = 0
                    set 1 0 OBJECT 6
                    clashes 0 1 = 1
                    set 1 1 OBJECT 6
                    clashes 0 1 = 1
                    set 0 1 OBJECT 5
                    clashes 0 1 = 2
                    """.replace("OBJECT", String.valueOf(object)));
        }
    }

    private static void noneIfTheBaseAndOneHeadDoNotHaveTheSlide() {
        Script.test("promise 11, \"if the base does not have it, it is as in the head that has it\"", TWO_SLIDES, """
                add 0 0 = 2
                set 0 2 0 5
                clashes 0 1 = 0
                clashes 1 0 = 0
                add 1 0 = 3
                set 1 3 0 6
                clashes 0 1 = 0
                clashes 1 0 = 0
                drop 0 2
                clashes 0 1 = 0
                """);
    }

    /** The base of the branches 0 and 2, the version 3, dropped the slide 0; both merges kept it. */
    private static void oneForAnObjectThatTheBaseDoesNotHave() {
        Script.test("promise 11, \"if both have it then, each object is as in both .. otherwise it is a clash\"", """
                add 0 0
                branch 1 = 1
                set 0 0 0 5
                drop 1 0 = 3
                branch 2 = 2
                merge 0 1 OURS = 4
                base 0 1 = 3
                clashes 0 1 = 0
                merge 2 1 OURS = 5
                base 0 2 = 3
                value 3 0 0 = NONE
                clashes 0 2 = 0
                clashes 2 0 = 0
                set 0 0 0 6
                clashes 0 2 = 1
                clashes 2 0 = 1
                # one of the two has it at all
                set 2 0 1 7
                clashes 0 2 = 2
                set 0 0 3 8
                clashes 0 2 = 3
                set 2 0 0 6
                clashes 0 2 = 2
                set 0 0 1 7
                set 2 0 3 8
                clashes 0 2 = 0
                # and the slide itself is none, if one drops it
                set 0 0 2 9
                clashes 0 2 = 1
                drop 2 0
                clashes 0 2 = 0
                clashes 2 0 = 0
                """);
    }

    private static void noneIfNeitherHeadHasTheSlide() {
        Script.test("promise 11, \"it is gone, if the other one does not have it either\"", TWO_SLIDES, """
                set 0 0 0 11
                set 1 0 0 12
                clashes 0 1 = 1
                drop 0 0
                clashes 0 1 = 1
                drop 1 0
                clashes 0 1 = 0
                clashes 1 0 = 0
                """);
    }

    private static void noneIfTheOtherOneHasAllObjectsAsInTheBase() {
        Script.test("promise 11, \"or has it with all objects as in the base\"", TWO_SLIDES, """
                drop 0 0
                clashes 0 1 = 0
                clashes 1 0 = 0
                # another slide changed
                set 1 1 0 5
                set 0 1 3 41
                clashes 0 1 = 0
                # changed, and as in the base again
                set 1 0 0 11
                clashes 0 1 = 1
                clashes 1 0 = 1
                set 1 0 0 10
                clashes 0 1 = 0
                clashes 1 0 = 0
                """);
    }

    private static void oneForASlideThatOneHeadDoesNotHave() {
        for (int object = 0; object < 4; object++) {
            Script.test("promise 11, \"with all objects as in the base; otherwise it is a clash\", the object " + object,
                    TWO_SLIDES, """
                    drop 0 0
                    drop 1 1
                    clashes 0 1 = 0
                    set 1 0 OBJECT 500
                    clashes 0 1 = 1
                    clashes 1 0 = 1
                    set 0 1 OBJECT 500
                    clashes 0 1 = 2
                    """.replace("OBJECT", String.valueOf(object)));
        }
        Script.test("promise 11: an object that is gone is not as in the base", TWO_SLIDES, """
                drop 0 0
                set 1 0 1 0
                clashes 0 1 = 1
                """);
    }

    private static void countsObjectsAndSlides() {
        Script.test("promise 11, \"one for an object, one for a slide that one head does not have any more\"", TWO_SLIDES, """
                add 0 0 = 2
                set 0 0 0 11
                set 0 0 1 21
                set 0 0 2 31
                set 0 0 3 41
                set 1 0 0 12
                clashes 0 1 = 1
                set 1 0 1 22
                set 1 0 2 32
                set 1 0 3 42
                clashes 0 1 = 4
                set 0 1 0 1
                set 0 1 1 1
                set 0 1 2 1
                set 0 1 3 1
                set 1 1 0 2
                set 1 1 1 2
                set 1 1 2 2
                set 1 1 3 2
                clashes 0 1 = 8
                clashes 1 0 = 8
                # a slide is but one, however many of its objects changed
                drop 1 1
                clashes 0 1 = 5
                clashes 1 0 = 5
                drop 0 0
                clashes 0 1 = 2
                """);
    }

    private static void countsTheTwentiethSlide() {
        Script.test("promise 11: the slides 16 and 19, of places 0 and 3", Script.times(8, "add 0 0"), "branch 0\n",
                Script.times(8, "add 1 0"), "branch 0\n", Script.times(4, "add 2 0"), """
                branch 20 = 3
                deck 20 = 19 18 17 16
                set 2 19 3 1
                set 3 19 3 2
                clashes 2 3 = 1
                set 2 16 0 1
                set 3 16 0 2
                clashes 2 3 = 2
                drop 2 19
                clashes 2 3 = 2
                drop 3 16
                clashes 3 2 = 2
                """);
        Script.test("promise 11: the first and the last slide of a full deck", Script.times(8, "add 0 0"), """
                branch 8 = 1
                set 0 7 0 1
                set 1 7 0 2
                set 0 0 3 3
                set 1 0 3 4
                clashes 0 1 = 2
                """);
    }

    private static void countsWhatCouldNotBeMerged() {
        Script.test("promise 11: also if the deck would have more than 8 slides", Script.times(7, "add 0 0"), """
                branch 7 = 1
                add 0 0
                add 1 0
                clashes 0 1 = 0
                set 0 3 0 5
                set 1 3 0 6
                clashes 0 1 = 1
                merge 0 1 OURS ! STATE
                """);
        Script.test("promise 11: also if the deck would be blocked", TWO_SLIDES, """
                rule 0 0 1 1
                set 0 0 0 11
                set 1 0 0 12
                clashes 0 1 = 1
                merge 0 1 OURS ! STATE
                """);
        Script.test("promise 11: also if there are 40 versions", """
                add 0 0
                branch 1 = 1
                set 1 0 0 1
                """ + Script.times(37, "set 0 0 0 2") + """
                clashes 0 1 = 1
                merge 0 1 OURS ! STATE
                """);
    }

    private static void changesNothing() {
        Script.test("promise 11, \"Counts the clashes of a merge\": and merges nothing", TWO_SLIDES, """
                set 0 0 0 11
                set 1 0 0 12
                clashes 0 1 = 1
                clashes 0 1 = 1
                head 0 = 7
                head 1 = 8
                about 9 0 ! INDEX
                objects 7 0 = 11 20 0 0
                objects 8 0 = 12 20 0 0
                # a merge settles them for the branch into which alone, and both have it as an ancestor then
                merge 0 1 OURS = 9
                clashes 0 1 = 0
                clashes 1 0 = 0
                """);
    }

    private static void throwsIndexIfThereIsNoSuchBranch() {
        Script.test("promise 11, \"Throws IndexOutOfBoundsException if there is no such branch, of either\"", """
                clashes 0 1 ! INDEX
                clashes 1 0 ! INDEX
                branch 0 = 1
                clashes 0 1 = 0
                clashes 0 2 ! INDEX
                clashes 2 0 ! INDEX
                clashes 0 -1 ! INDEX
                clashes -1 0 ! INDEX
                clashes MOST 0 ! INDEX
                clashes 0 LEAST ! INDEX
                branch 0
                branch 0
                branch 0
                branch 0 = 5
                clashes 5 4 = 0
                clashes 4 5 = 0
                clashes 6 5 ! INDEX
                clashes 5 6 ! INDEX
                """);
    }

    private static void throwsArgumentIfBothAreTheSame() {
        Script.test("promise 11, \"Throws IllegalArgumentException if both are the same\"", """
                clashes 0 0 ! ARGUMENT
                branch 0 = 1
                clashes 0 0 ! ARGUMENT
                clashes 1 1 ! ARGUMENT
                # the same head is no reason
                clashes 0 1 = 0
                """);
    }

    private static void theFirstNamedIsThrown() {
        Script.test("promise 11: no such branch, and both are the same", """
                clashes 1 1 ! INDEX
                clashes -1 -1 ! INDEX
                clashes 6 6 ! INDEX
                clashes LEAST LEAST ! INDEX
                """);
    }
}
