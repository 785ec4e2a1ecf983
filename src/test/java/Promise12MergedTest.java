/** The promise 12: merged. */
public final class Promise12MergedTest {
    /** The slides 0 (10 20 0 0) and 1 (0 0 30 40), the version 6, the head of the branches 0 and 1. */
    private static final String TWO_SLIDES = """
            add 0 0
            add 0 1
            set 0 0 0 10
            set 0 0 1 20
            set 0 1 2 30
            set 0 1 3 40
            branch 6
            """;

    public static void main(String[] args) {
        asInTheBaseIfNeitherDiffers();
        asInTheOneThatDiffers();
        asInBothIfTheyAreAlike();
        aClashAsOursOrTheirs();
        anyObject();
        asInTheHeadThatHasIt();
        asInBothIfTheBaseDoesNotHaveIt();
        goneIfNeitherHasIt();
        goneIfTheOtherOneHasItAsInTheBase();
        aSlidesClashIsGoneOrAsThere();
        noneIfTheDeckWouldNotHaveTheSlide();
        foundForTheObjectAlone();
        throwsIndexIfThereIsNoSuchBranch();
        throwsIndexIfThereIsNoSuchSlide();
        throwsIndexIfThereIsNoSuchObject();
        throwsArgumentIfBothBranchesAreTheSame();
        throwsArgumentIfSettledIsOutOfRange();
        theFirstNamedIsThrown();
        Check.end("Promise12MergedTest");
    }

    private static void asInTheBaseIfNeitherDiffers() {
        Script.test("promise 12, \"as in the base, if neither differs from that\"", TWO_SLIDES, """
                merged 0 1 0 0 OURS = 10
                merged 0 1 0 0 THEIRS = 10
                merged 1 0 0 1 OURS = 20
                merged 0 1 0 2 THEIRS = 0
                merged 0 1 1 3 OURS = 40
                merged 0 1 1 0 THEIRS = 0
                # though another object differs in both
                set 0 0 0 11
                set 1 0 0 12
                merged 0 1 0 1 OURS = 20
                merged 0 1 0 1 THEIRS = 20
                """);
    }

    private static void asInTheOneThatDiffers() {
        Script.test("promise 12, \"as in the one that differs, if one does\"", TWO_SLIDES, """
                set 0 0 0 11
                set 1 0 1 21
                set 0 1 3 0
                set 1 1 0 999
                merged 0 1 0 0 OURS = 11
                merged 0 1 0 0 THEIRS = 11
                merged 1 0 0 0 OURS = 11
                merged 1 0 0 0 THEIRS = 11
                merged 0 1 0 1 OURS = 21
                merged 0 1 0 1 THEIRS = 21
                merged 1 0 0 1 OURS = 21
                # gone is different too
                merged 0 1 1 3 OURS = 0
                merged 0 1 1 3 THEIRS = 0
                merged 1 0 1 3 OURS = 0
                merged 1 0 1 3 THEIRS = 0
                merged 0 1 1 0 OURS = 999
                merged 1 0 1 0 THEIRS = 999
                """);
    }

    private static void asInBothIfTheyAreAlike() {
        Script.test("promise 12, \"if both differ, as in both, if they are alike\"", TWO_SLIDES, """
                set 0 0 0 11
                set 1 0 0 11
                set 0 0 1 0
                set 1 0 1 0
                set 0 1 0 5
                set 1 1 0 5
                merged 0 1 0 0 OURS = 11
                merged 0 1 0 0 THEIRS = 11
                merged 1 0 0 1 OURS = 0
                merged 1 0 0 1 THEIRS = 0
                merged 0 1 1 0 OURS = 5
                merged 1 0 1 0 THEIRS = 5
                """);
    }

    private static void aClashAsOursOrTheirs() {
        Script.test("promise 12, \"settled .. as in the branch into which is merged (OURS), or as in the other one (THEIRS)\"",
                TWO_SLIDES, """
                set 0 0 0 11
                set 1 0 0 12
                merged 0 1 0 0 OURS = 11
                merged 0 1 0 0 THEIRS = 12
                merged 1 0 0 0 OURS = 12
                merged 1 0 0 0 THEIRS = 11
                # one of both is not there
                set 1 0 0 0
                merged 0 1 0 0 OURS = 11
                merged 0 1 0 0 THEIRS = 0
                merged 1 0 0 0 OURS = 0
                merged 1 0 0 0 THEIRS = 11
                # no clash any more
                set 0 0 0 10
                merged 0 1 0 0 OURS = 0
                merged 0 1 0 0 THEIRS = 0
                """);
    }

    private static void anyObject() {
        for (int object = 0; object < 4; object++) {
            Script.test("promise 12: the object " + object, TWO_SLIDES, """
                    set 0 0 OBJECT 5
                    merged 0 1 0 OBJECT THEIRS = 5
                    merged 1 0 0 OBJECT OURS = 5
                    set 1 0 OBJECT 6
                    merged 0 1 0 OBJECT OURS = 5
                    merged 0 1 0 OBJECT THEIRS = 6
                    set 1 1 OBJECT 7
                    merged 0 1 1 OBJECT OURS = 7
                    merged 1 0 1 OBJECT THEIRS = 7
                    """.replace("OBJECT", String.valueOf(object)));
        }
    }

    private static void asInTheHeadThatHasIt() {
        Script.test("promise 12, \"if the base does not have it, it is as in the head that has it\"", TWO_SLIDES, """
                add 0 0 = 2
                set 0 2 0 5
                add 1 2 = 3
                set 1 3 3 6
                merged 0 1 2 0 OURS = 5
                merged 0 1 2 0 THEIRS = 5
                merged 1 0 2 0 OURS = 5
                merged 1 0 2 0 THEIRS = 5
                merged 0 1 2 1 OURS = 0
                merged 0 1 3 3 OURS = 6
                merged 0 1 3 3 THEIRS = 6
                merged 1 0 3 3 OURS = 6
                merged 1 0 3 3 THEIRS = 6
                merged 0 1 3 0 THEIRS = 0
                """);
    }

    /** The base of the branches 0 and 2, the version 3, dropped the slide 0; both merges kept it. */
    private static void asInBothIfTheBaseDoesNotHaveIt() {
        Script.test("promise 12, \"if both have it then, each object is as in both, if they are alike\"", """
                add 0 0
                branch 1 = 1
                set 0 0 0 5
                drop 1 0 = 3
                branch 2 = 2
                merge 0 1 OURS = 4
                merged 0 1 0 0 OURS = 5
                merged 0 1 0 0 THEIRS = 5
                merged 1 0 0 0 OURS = 5
                merge 2 1 OURS = 5
                base 0 2 = 3
                merged 0 2 0 0 OURS = 5
                merged 0 2 0 0 THEIRS = 5
                merged 0 2 0 1 OURS = 0
                # not alike: a clash, also if one of both is not there
                set 0 0 0 6
                set 2 0 1 7
                merged 0 2 0 0 OURS = 6
                merged 0 2 0 0 THEIRS = 5
                merged 2 0 0 0 OURS = 5
                merged 2 0 0 0 THEIRS = 6
                merged 0 2 0 1 OURS = 0
                merged 0 2 0 1 THEIRS = 7
                merged 2 0 0 1 OURS = 7
                merged 2 0 0 1 THEIRS = 0
                """);
    }

    private static void goneIfNeitherHasIt() {
        Script.test("promise 12, \"it is gone, if the other one does not have it either\"", TWO_SLIDES, """
                set 0 0 0 11
                drop 0 0
                drop 1 0
                merged 0 1 0 0 OURS = NONE
                merged 0 1 0 0 THEIRS = NONE
                merged 1 0 0 3 OURS = NONE
                merged 0 1 1 3 OURS = 40
                """);
    }

    private static void goneIfTheOtherOneHasItAsInTheBase() {
        Script.test("promise 12, \"or has it with all objects as in the base\"", TWO_SLIDES, """
                drop 0 0
                drop 1 1
                merged 0 1 0 0 OURS = NONE
                merged 0 1 0 0 THEIRS = NONE
                merged 1 0 0 0 OURS = NONE
                merged 1 0 0 0 THEIRS = NONE
                merged 0 1 1 2 OURS = NONE
                merged 0 1 1 2 THEIRS = NONE
                # changed, and as in the base again
                set 1 0 3 5
                set 1 0 3 0
                merged 0 1 0 0 THEIRS = NONE
                merged 1 0 0 0 OURS = NONE
                """);
    }

    private static void aSlidesClashIsGoneOrAsThere() {
        for (int object = 0; object < 4; object++) {
            Script.test("promise 12, \"a slide so is gone, or has all objects as there\", changed in " + object,
                    TWO_SLIDES, """
                    drop 0 0
                    set 1 0 OBJECT 9
                    merged 0 1 0 OBJECT OURS = NONE
                    merged 0 1 0 OBJECT THEIRS = 9
                    merged 1 0 0 OBJECT OURS = 9
                    merged 1 0 0 OBJECT THEIRS = NONE
                    """.replace("OBJECT", String.valueOf(object)));
        }
        Script.test("promise 12, \"or has all objects as there\", those that did not change too", TWO_SLIDES, """
                drop 0 0
                set 1 0 3 9
                merged 0 1 0 0 THEIRS = 10
                merged 0 1 0 1 THEIRS = 20
                merged 0 1 0 2 THEIRS = 0
                merged 0 1 0 3 THEIRS = 9
                merged 1 0 0 0 OURS = 10
                merged 1 0 0 2 OURS = 0
                merged 0 1 0 0 OURS = NONE
                merged 1 0 0 2 THEIRS = NONE
                """);
    }

    private static void noneIfTheDeckWouldNotHaveTheSlide() {
        Script.test("promise 12, \"NONE if the deck would not have the slide\": one of a third branch", TWO_SLIDES, """
                branch 0 = 2
                add 2 0 = 2
                merged 0 1 2 0 OURS = NONE
                merged 0 1 2 0 THEIRS = NONE
                merged 0 2 2 0 OURS = 0
                # and one that was dropped before the base
                drop 0 1
                branch 8 = 3
                merged 0 3 1 2 OURS = NONE
                merged 3 0 1 2 THEIRS = NONE
                merged 0 3 0 0 OURS = 10
                """);
        Script.test("promise 12: of empty decks", """
                branch 0 = 1
                branch 0 = 2
                add 2 0 = 0
                merged 0 1 0 0 OURS = NONE
                merged 0 1 0 3 THEIRS = NONE
                """);
    }

    private static void foundForTheObjectAlone() {
        Script.test("promise 12, \"found for the object alone\": also if the deck would have more than 8 slides",
                Script.times(7, "add 0 0"), """
                branch 7 = 1
                add 0 8 ! INDEX
                add 0 0 = 7
                add 1 0 = 8
                set 0 7 0 5
                set 1 8 0 6
                merge 0 1 OURS ! STATE
                merged 0 1 7 0 OURS = 5
                merged 0 1 8 0 OURS = 6
                merged 1 0 7 0 THEIRS = 5
                merged 0 1 0 0 OURS = 0
                """);
        Script.test("promise 12, \"found for the object alone\": also if the deck would be blocked", TWO_SLIDES, """
                rule 0 0 1 1
                set 0 0 0 11
                merge 0 1 OURS ! STATE
                merged 0 1 0 0 OURS = 11
                """);
        Script.test("promise 12, \"found for the object alone\": also with 40 versions", """
                add 0 0
                branch 1 = 1
                """ + Script.times(38, "set 0 0 0 5") + """
                merge 1 0 OURS ! STATE
                merged 1 0 0 0 OURS = 5
                """);
        Script.test("promise 12: no version is made, none of both branches goes on", TWO_SLIDES, """
                set 0 0 0 11
                set 1 0 0 12
                merged 0 1 0 0 THEIRS = 12
                head 0 = 7
                head 1 = 8
                about 9 0 ! INDEX
                value 7 0 0 = 11
                """);
    }

    private static void throwsIndexIfThereIsNoSuchBranch() {
        Script.test("promise 12, \"Throws IndexOutOfBoundsException if there is no such branch, of either\"", """
                add 0 0
                merged 0 1 0 0 OURS ! INDEX
                merged 1 0 0 0 OURS ! INDEX
                branch 0 = 1
                merged 0 1 0 0 OURS = 0
                merged 1 0 0 0 OURS = 0
                merged 0 2 0 0 OURS ! INDEX
                merged 2 0 0 0 OURS ! INDEX
                merged 0 -1 0 0 OURS ! INDEX
                merged -1 0 0 0 OURS ! INDEX
                merged MOST 0 0 0 OURS ! INDEX
                merged 0 LEAST 0 0 OURS ! INDEX
                branch 0
                branch 0
                branch 0
                branch 0 = 5
                merged 5 0 0 0 OURS = 0
                merged 0 5 0 0 OURS = 0
                merged 6 0 0 0 OURS ! INDEX
                merged 0 6 0 0 OURS ! INDEX
                """);
    }

    private static void throwsIndexIfThereIsNoSuchSlide() {
        Script.test("promise 12, \"Throws IndexOutOfBoundsException if there is no such .. slide\"", """
                branch 0 = 1
                merged 0 1 0 0 OURS ! INDEX
                add 0 0
                merged 0 1 -1 0 OURS ! INDEX
                merged 0 1 0 0 OURS = 0
                merged 0 1 1 0 OURS ! INDEX
                merged 0 1 LEAST 0 OURS ! INDEX
                merged 0 1 MOST 0 OURS ! INDEX
                add 1 0 = 1
                merged 0 1 1 0 OURS = 0
                merged 0 1 2 0 OURS ! INDEX
                """);
        Script.test("promise 12, \"if there is no such .. slide\", with 20", Script.times(8, "add 0 0"), "branch 0\n",
                Script.times(8, "add 1 0"), "branch 0\n", Script.times(4, "add 2 0"), """
                merged 0 2 19 0 OURS = 0
                merged 2 0 19 3 THEIRS = 0
                merged 0 1 19 0 OURS = NONE
                merged 0 2 20 0 OURS ! INDEX
                merged 0 2 -1 0 OURS ! INDEX
                """);
    }

    private static void throwsIndexIfThereIsNoSuchObject() {
        Script.test("promise 12, \"object: 0 to 3\", \"no such .. object\"", TWO_SLIDES, """
                merged 0 1 0 -1 OURS ! INDEX
                merged 0 1 0 0 OURS = 10
                merged 0 1 0 3 OURS = 0
                merged 0 1 0 4 OURS ! INDEX
                merged 0 1 1 -1 OURS ! INDEX
                merged 0 1 1 3 OURS = 40
                merged 0 1 1 4 OURS ! INDEX
                merged 0 1 0 LEAST OURS ! INDEX
                merged 0 1 0 MOST OURS ! INDEX
                # also of a slide that is gone
                drop 0 0
                merged 0 1 0 3 OURS = NONE
                merged 0 1 0 4 OURS ! INDEX
                """);
    }

    private static void throwsArgumentIfBothBranchesAreTheSame() {
        Script.test("promise 12, \"Throws IllegalArgumentException if both branches are the same\"", TWO_SLIDES, """
                merged 0 0 0 0 OURS ! ARGUMENT
                merged 1 1 0 0 THEIRS ! ARGUMENT
                # the same head is no reason
                merged 0 1 0 0 OURS = 10
                """);
    }

    private static void throwsArgumentIfSettledIsOutOfRange() {
        Script.test("promise 12, \"settled: OURS or THEIRS\", \"or settled is out of range\"", TWO_SLIDES, """
                set 0 0 0 11
                set 1 0 0 12
                merged 0 1 0 0 NONE ! ARGUMENT
                merged 0 1 0 0 -1 ! ARGUMENT
                merged 0 1 0 0 0 = 11
                merged 0 1 0 0 1 = 12
                merged 0 1 0 0 2 ! ARGUMENT
                merged 0 1 0 0 -2 ! ARGUMENT
                merged 0 1 0 0 LEAST ! ARGUMENT
                merged 0 1 0 0 MOST ! ARGUMENT
                # also where nothing is to be settled
                merged 0 1 1 0 NONE ! ARGUMENT
                merged 0 1 1 0 2 ! ARGUMENT
                merged 0 1 1 0 OURS = 0
                """);
    }

    private static void theFirstNamedIsThrown() {
        Script.test("promise 12: no such branch, slide or object, and both are the same, or settled is out of range",
                TWO_SLIDES, """
                merged 2 2 0 0 OURS ! INDEX
                merged -1 -1 0 0 OURS ! INDEX
                merged 0 2 0 0 NONE ! INDEX
                merged 2 0 0 0 2 ! INDEX
                merged 1 1 2 0 OURS ! INDEX
                merged 0 1 2 0 NONE ! INDEX
                merged 0 1 -1 0 2 ! INDEX
                merged 1 1 0 4 OURS ! INDEX
                merged 0 1 0 4 2 ! INDEX
                merged 0 0 0 -1 NONE ! INDEX
                merged 0 0 0 0 2 ! ARGUMENT
                """);
    }
}
