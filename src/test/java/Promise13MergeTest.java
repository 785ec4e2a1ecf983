/** The promise 13: merge. */
public final class Promise13MergeTest {
    /** The slides 0 (10 20 0 0) and 1 (0 0 30 40), the version 6, the head of the branches 0 and 1. */
    private static final String TWO_SLIDES = """
            add 0 0
            add 0 1
            set 0 0 0 10
            set 0 0 1 20
            set 0 1 2 30
            set 0 1 3 40
            branch 6
            """;

    /** The branch 0 dropped the slide 7 and added the slide 8, the branch 1 changed the slide 7. */
    private static final String EIGHT_OR_NINE = Script.times(8, "add 0 0") + """
            branch 8
            drop 0 7
            add 0 7
            set 1 7 0 5
            """;

    public static void main(String[] args) {
        mergesObjectByObject();
        mergesSlidesThatTheBaseDoesNotHave();
        mergesDroppedSlides();
        settlesAllAlike();
        aSlidesClashLeavesWholeSlides();
        noneIfThereIsNoClash();
        returnsTheVersionWhichIsTheHead();
        makesAVersionAlsoIfOneHeadIsAnAncestor();
        ordersSlides();
        throwsIndexIfThereIsNoSuchBranch();
        throwsArgumentIfBothAreTheSame();
        throwsArgumentIfSettledIsOutOfRange();
        throwsStateIfThereAreClashesNotSettled();
        throwsStateIfTheDeckWouldHaveMoreThan8Slides();
        moreThan8SlidesAsSettled();
        throwsStateIfItWouldBeBlockedByTheRank0();
        throwsStateIfItWouldBeBlockedByTheRank1();
        warningsAreNoReason();
        theMergedDeckCountsNotTheHeads();
        throwsStateIfThereAre40Versions();
        theFirstNamedIsThrown();
        Check.end("Promise13MergeTest");
    }

    private static void mergesObjectByObject() {
        Script.test("promise 13, \"Merges\": each object as in the base, the one that differs, or both", TWO_SLIDES, """
                branch 6 = 2
                set 0 0 0 11
                set 1 0 0 12
                set 1 0 1 22
                set 0 1 2 31
                set 1 1 2 31
                set 0 1 0 5
                merge 0 1 OURS = 13
                deck 13 = 0 1
                objects 13 0 = 11 22 0 0
                objects 13 1 = 5 0 31 40
                # both heads are as they were
                objects 12 0 = 11 20 0 0
                objects 12 1 = 5 0 31 40
                objects 11 0 = 12 22 0 0
                objects 11 1 = 0 0 31 40
                # into a branch that did not go on
                merge 2 1 NONE = 14
                objects 14 0 = 12 22 0 0
                objects 14 1 = 0 0 31 40
                """);
    }

    private static void mergesSlidesThatTheBaseDoesNotHave() {
        Script.test("promise 13, \"if the base does not have it, it is as in the head that has it\"", TWO_SLIDES, """
                add 0 2 = 2
                set 0 2 0 5
                add 1 2 = 3
                set 1 3 3 6
                merge 0 1 NONE = 11
                deck 11 = 0 1 2 3
                objects 11 2 = 5 0 0 0
                objects 11 3 = 0 0 0 6
                objects 11 0 = 10 20 0 0
                """);
        Script.test("promise 13, \"if both have it then, each object is as in both .. otherwise it is a clash\"", """
                add 0 0
                branch 1 = 1
                set 0 0 0 5
                drop 1 0 = 3
                branch 2 = 2
                merge 0 1 OURS = 4
                merge 2 1 OURS = 5
                base 0 2 = 3
                branch 4 = 3
                branch 5 = 4
                # alike in both
                merge 3 4 NONE = 6
                objects 6 0 = 5 0 0 0
                set 0 0 0 6
                set 2 0 1 7
                merge 0 2 NONE ! STATE
                merge 0 2 THEIRS = 9
                deck 9 = 0
                objects 9 0 = 5 7 0 0
                """);
    }

    private static void mergesDroppedSlides() {
        Script.test("promise 13, \"it is gone, if the other one does not have it either, or has it .. as in the base\"",
                TWO_SLIDES, """
                drop 0 0
                branch 6 = 2
                # as in the base, in both directions
                merge 2 0 NONE = 8
                deck 8 = 1
                objects 8 1 = 0 0 30 40
                merge 0 1 NONE = 9
                deck 9 = 1
                # neither has it
                set 1 0 0 11
                drop 1 0
                merge 0 1 NONE = 12
                deck 12 = 1
                # all slides are gone
                drop 0 1
                merge 1 0 NONE = 14
                deck 14 =
                about 14 3 = 0
                """);
    }

    private static void settlesAllAlike() {
        Script.test("promise 13, \"They are settled .. as in the branch into which is merged, or as in the other one, all alike\"",
                TWO_SLIDES, """
                set 0 0 0 11
                set 1 0 0 12
                set 0 0 3 13
                set 1 0 3 14
                drop 0 1 = 11
                set 1 1 3 41
                branch 11 = 2
                branch 12 = 3
                branch 11 = 4
                branch 12 = 5
                clashes 0 1 = 3
                merge 0 1 OURS = 13
                deck 13 = 0
                objects 13 0 = 11 20 0 13
                merge 2 1 THEIRS = 14
                deck 14 = 0 1
                objects 14 0 = 12 20 0 14
                objects 14 1 = 0 0 30 41
                merge 3 4 OURS = 15
                deck 15 = 0 1
                objects 15 0 = 12 20 0 14
                objects 15 1 = 0 0 30 41
                merge 5 4 THEIRS = 16
                deck 16 = 0
                objects 16 0 = 11 20 0 13
                """);
    }

    private static void aSlidesClashLeavesWholeSlides() {
        Script.test("promise 13, \"a slide so is gone, or has all objects as there\"", TWO_SLIDES, """
                drop 0 0
                set 1 0 0 11
                set 1 0 3 9
                branch 7 = 2
                merge 0 1 OURS = 10
                deck 10 = 1
                merge 2 1 THEIRS = 11
                deck 11 = 1 0
                objects 11 0 = 11 20 0 9
                objects 11 1 = 0 0 30 40
                """);
    }

    private static void noneIfThereIsNoClash() {
        Script.test("promise 13, \"settled: OURS, THEIRS, or NONE: there may be no clash then\"", TWO_SLIDES, """
                merge 0 1 NONE = 7
                set 0 0 0 11
                set 1 0 1 21
                merge 0 1 NONE = 10
                objects 10 0 = 11 21 0 0
                # settled so, though there is none
                set 1 0 2 31
                merge 0 1 OURS = 12
                objects 12 0 = 11 21 31 0
                set 1 0 3 41
                merge 0 1 THEIRS = 14
                objects 14 0 = 11 21 31 41
                """);
    }

    private static void returnsTheVersionWhichIsTheHead() {
        Script.test("promise 13, \"Returns the version, which is the head of the first branch then\"", TWO_SLIDES, """
                set 1 0 0 11
                merge 0 1 NONE = 8
                head 0 = 8
                head 1 = 7
                about 8 0 = 0
                about 8 1 = 6
                about 8 2 = 7
                about 8 3 = 2
                about 8 4 = 9
                merge 1 0 NONE = 9
                head 1 = 9
                head 0 = 8
                about 9 0 = 1
                about 9 1 = 7
                about 9 2 = 8
                # and edits go on from there
                set 0 0 0 12 = 11
                about 10 1 = 8
                about 10 2 = NONE
                """);
    }

    private static void makesAVersionAlsoIfOneHeadIsAnAncestor() {
        Script.test("promise 13, \"A merge makes a version also if one head is an ancestor of the other one\"", """
                branch 0 = 1
                add 0 0
                set 0 0 0 4
                # from a head that is ahead
                merge 1 0 NONE = 3
                head 1 = 3
                about 3 1 = 0
                about 3 2 = 2
                objects 3 0 = 4 0 0 0
                # into a head that is ahead
                merge 1 0 NONE = 4
                about 4 1 = 3
                about 4 2 = 2
                about 4 4 = 5
                deck 4 = 0
                objects 4 0 = 4 0 0 0
                # of alike heads
                branch 4 = 2
                merge 2 1 NONE = 5
                about 5 1 = 4
                about 5 2 = 4
                about 5 4 = 6
                deck 5 = 0
                """);
        Script.test("promise 13: of two empty decks", """
                branch 0 = 1
                merge 0 1 NONE = 1
                head 0 = 1
                about 1 1 = 0
                about 1 2 = 0
                about 1 4 = 2
                deck 1 =
                """);
    }

    private static void ordersSlides() {
        Script.test("promise 13, \"in the order of the branch into which .., those that it has not behind these\"", """
                add 0 0
                add 0 1
                branch 2 = 1
                add 0 0
                add 1 0
                add 1 1
                add 0 2
                drop 1 0
                deck 6 = 2 0 5 1
                deck 7 = 3 4 1
                branch 6 = 2
                merge 0 1 NONE = 8
                deck 8 = 2 5 1 3 4
                merge 1 2 NONE = 9
                deck 9 = 3 4 1 2 5
                # both have all of them, in orders of their own
                merge 1 0 NONE = 10
                deck 10 = 3 4 1 2 5
                merge 0 1 NONE = 11
                deck 11 = 2 5 1 3 4
                """);
        Script.test("promise 13: a slide that is taken back stands behind those of the branch", TWO_SLIDES, """
                add 0 2
                drop 0 0 = 8
                set 1 0 0 11
                deck 8 = 1 2
                deck 9 = 0 1
                merge 0 1 THEIRS = 10
                deck 10 = 1 2 0
                """);
    }

    private static void throwsIndexIfThereIsNoSuchBranch() {
        Script.test("promise 13, \"Throws IndexOutOfBoundsException if there is no such branch, of either\"", """
                add 0 0
                merge 0 1 NONE ! INDEX
                merge 1 0 NONE ! INDEX
                branch 0 = 1
                merge 0 2 NONE ! INDEX
                merge 2 0 NONE ! INDEX
                merge 0 -1 OURS ! INDEX
                merge -1 0 THEIRS ! INDEX
                merge MOST 0 NONE ! INDEX
                merge 0 LEAST NONE ! INDEX
                merge 0 1 NONE = 2
                branch 0
                branch 0
                branch 0
                branch 0 = 5
                merge 6 0 NONE ! INDEX
                merge 0 6 NONE ! INDEX
                merge 5 0 NONE = 3
                merge 0 5 NONE = 4
                """);
    }

    private static void throwsArgumentIfBothAreTheSame() {
        Script.test("promise 13, \"Throws IllegalArgumentException if both are the same\"", TWO_SLIDES, """
                merge 0 0 NONE ! ARGUMENT
                merge 1 1 OURS ! ARGUMENT
                merge 0 0 THEIRS ! ARGUMENT
                # the same head is no reason
                merge 0 1 NONE = 7
                """);
    }

    private static void throwsArgumentIfSettledIsOutOfRange() {
        Script.test("promise 13, \"Throws IllegalArgumentException if .. settled is out of range\"", TWO_SLIDES, """
                merge 0 1 -2 ! ARGUMENT
                merge 0 1 2 ! ARGUMENT
                merge 0 1 LEAST ! ARGUMENT
                merge 0 1 MOST ! ARGUMENT
                merge 0 1 -1 = 7
                merge 0 1 0 = 8
                merge 0 1 1 = 9
                # also where there is a clash
                set 0 0 0 11
                set 1 0 0 12
                merge 0 1 -2 ! ARGUMENT
                merge 0 1 2 ! ARGUMENT
                merge 0 1 1 = 12
                objects 12 0 = 12 20 0 0
                """);
    }

    private static void throwsStateIfThereAreClashesNotSettled() {
        Script.test("promise 13, \"Throws IllegalStateException if there are clashes that are not settled\"", TWO_SLIDES, """
                set 0 0 0 11
                set 1 0 0 12
                clashes 0 1 = 1
                merge 0 1 NONE ! STATE
                merge 1 0 NONE ! STATE
                # none any more
                set 1 0 0 10
                clashes 0 1 = 0
                merge 0 1 NONE = 10
                objects 10 0 = 11 20 0 0
                # of a slide
                drop 1 1
                set 0 1 0 5
                clashes 0 1 = 1
                merge 0 1 NONE ! STATE
                merge 1 0 NONE ! STATE
                merge 0 1 OURS = 13
                deck 13 = 0 1
                objects 13 1 = 5 0 30 40
                # of many objects
                set 0 0 0 1
                set 0 0 3 1
                set 1 0 0 2
                set 1 0 3 2
                clashes 0 1 = 2
                merge 0 1 NONE ! STATE
                merge 0 1 THEIRS = 18
                objects 18 0 = 2 20 0 2
                """);
    }

    private static void throwsStateIfTheDeckWouldHaveMoreThan8Slides() {
        Script.test("promise 13, \"Throws IllegalStateException if .. the deck would have more than 8 slides\"", """
                add 0 0
                add 0 1
                add 0 2
                add 0 3
                add 0 4
                branch 5 = 1
                branch 5 = 2
                branch 5 = 3
                add 0 5 = 5
                add 1 5 = 6
                # seven
                merge 0 1 NONE = 8
                deck 8 = 0 1 2 3 4 5 6
                # eight
                add 2 5 = 7
                merge 0 2 NONE = 10
                deck 10 = 0 1 2 3 4 5 6 7
                # nine
                add 3 5 = 8
                merge 0 3 NONE ! STATE
                merge 0 3 OURS ! STATE
                merge 0 3 THEIRS ! STATE
                merge 3 0 NONE ! STATE
                head 0 = 10
                head 3 = 11
                # eight, as one of them is gone
                drop 3 0
                merge 0 3 NONE = 13
                deck 13 = 1 2 3 4 5 6 7 8
                """);
        Script.test("promise 13: sixteen slides", Script.times(8, "add 0 0"), "branch 0\n",
                Script.times(8, "add 1 0"), """
                clashes 0 1 = 0
                merge 0 1 NONE ! STATE
                merge 1 0 THEIRS ! STATE
                """);
    }

    private static void moreThan8SlidesAsSettled() {
        Script.test("promise 13, \"more than 8 slides\": as the clashes are settled", EIGHT_OR_NINE, """
                deck 10 = 6 5 4 3 2 1 0 8
                deck 11 = 7 6 5 4 3 2 1 0
                clashes 0 1 = 1
                merge 0 1 THEIRS ! STATE
                merge 0 1 NONE ! STATE
                merge 1 0 OURS ! STATE
                merge 1 0 NONE ! STATE
                branch 11 = 2
                merge 2 0 THEIRS = 12
                deck 12 = 6 5 4 3 2 1 0 8
                merge 0 1 OURS = 13
                deck 13 = 6 5 4 3 2 1 0 8
                """);
    }

    private static void throwsStateIfItWouldBeBlockedByTheRank0() {
        Script.test("promise 13, \"Throws IllegalStateException if .. would be blocked\", by the rank 0", TWO_SLIDES, """
                rule 0 0 9 11
                set 1 0 0 12
                merge 0 1 NONE ! STATE
                merge 0 1 OURS ! STATE
                merge 0 1 THEIRS ! STATE
                merge 1 0 NONE ! STATE
                set 1 0 0 11
                merge 0 1 NONE = 9
                set 1 0 0 8
                merge 0 1 NONE ! STATE
                set 1 0 0 9
                merge 0 1 NONE = 12
                objects 12 0 = 9 20 0 0
                # an object that is not there keeps to it
                set 1 0 0 0
                merge 0 1 NONE = 14
                # a slide that only one head has
                add 1 2 = 2
                set 1 2 0 12
                merge 0 1 NONE ! STATE
                set 1 2 0 11
                merge 0 1 NONE = 18
                deck 18 = 0 1 2
                """);
    }

    private static void throwsStateIfItWouldBeBlockedByTheRank1() {
        Script.test("promise 13, \"would be blocked\", by the rank 1 without a waiver today", TWO_SLIDES, """
                rule 1 0 1 10
                rule 1 0 1 999
                set 1 0 0 11
                merge 0 1 NONE ! STATE
                # waivers for another slide, and of another rule
                waive 0 1 999
                waive 1 0 999
                merge 0 1 NONE ! STATE
                waive 0 0 2
                pass 1
                merge 0 1 NONE = 8
                # its last day
                pass 1
                set 1 0 1 21
                merge 0 1 NONE = 10
                # it ended
                pass 1
                set 1 0 1 22
                merge 0 1 NONE ! STATE
                waive 0 0 3
                merge 0 1 NONE = 12
                objects 12 0 = 11 22 0 0
                """);
    }

    private static void warningsAreNoReason() {
        Script.test("promise 13: breaks of the rank 2 do not block", TWO_SLIDES, """
                rule 2 0 1 1
                rule 2 1 1 1
                merge 0 1 NONE = 7
                warnings 7 = 2
                blocks 7 = 0
                """);
    }

    private static void theMergedDeckCountsNotTheHeads() {
        Script.test("promise 13: the merged deck would be blocked, not a head", TWO_SLIDES, """
                set 0 0 0 50
                set 1 0 0 60
                set 1 1 3 70
                rule 0 0 1 55
                # the other head is blocked
                blocks 9 = 1
                merge 0 1 THEIRS ! STATE
                merge 0 1 OURS = 10
                blocks 10 = 0
                objects 10 0 = 50 20 0 0
                objects 10 1 = 0 0 30 70
                # the head into which is merged is blocked
                merge 1 0 OURS = 11
                objects 11 0 = 50 20 0 0
                """);
        Script.test("promise 13: both heads are blocked, the merged deck is not", TWO_SLIDES, """
                rule 0 0 11 11
                rule 0 3 41 41
                set 0 0 0 11
                set 1 1 3 41
                blocks 7 = 1
                blocks 8 = 1
                merge 0 1 NONE = 9
                blocks 9 = 0
                """);
        Script.test("promise 13: the slide that blocks is gone", TWO_SLIDES, """
                rule 0 0 11 11
                drop 0 0
                blocks 6 = 1
                merge 1 0 NONE = 8
                deck 8 = 1
                """);
    }

    private static void throwsStateIfThereAre40Versions() {
        Script.test("promise 13, \"Throws IllegalStateException if .. there are 40 versions\"", """
                add 0 0
                branch 1 = 1
                """ + Script.times(37, "set 0 0 0 5") + """
                # there are 39
                merge 1 0 NONE = 39
                # there are 40
                merge 1 0 NONE ! STATE
                merge 0 1 NONE ! STATE
                merge 0 1 OURS ! STATE
                merge 0 1 THEIRS ! STATE
                head 0 = 38
                head 1 = 39
                objects 39 0 = 5 0 0 0
                about 39 2 = 38
                about 40 0 ! INDEX
                """);
    }

    private static void theFirstNamedIsThrown() {
        Script.test("promise 13: no such branch, and both are the same, or settled is out of range", TWO_SLIDES, """
                merge 2 2 NONE ! INDEX
                merge -1 -1 OURS ! INDEX
                merge 0 2 2 ! INDEX
                merge 2 0 -2 ! INDEX
                merge 2 2 2 ! INDEX
                """);
        Script.test("promise 13: and there are clashes that are not settled", TWO_SLIDES, """
                set 0 0 0 11
                set 1 0 0 12
                merge 0 2 NONE ! INDEX
                merge 0 0 NONE ! ARGUMENT
                merge 0 1 2 ! ARGUMENT
                merge 0 1 NONE ! STATE
                """);
        Script.test("promise 13: and the deck would have more than 8 slides", EIGHT_OR_NINE, """
                merge 2 1 THEIRS ! INDEX
                merge 1 1 THEIRS ! ARGUMENT
                merge 0 1 2 ! ARGUMENT
                merge 0 1 THEIRS ! STATE
                """);
        Script.test("promise 13: and it would be blocked", TWO_SLIDES, """
                rule 0 0 1 1
                merge 0 2 OURS ! INDEX
                merge 1 1 OURS ! ARGUMENT
                merge 0 1 -2 ! ARGUMENT
                merge 0 1 OURS ! STATE
                """);
        Script.test("promise 13: and there are 40 versions", """
                add 0 0
                branch 1 = 1
                """ + Script.times(38, "set 0 0 0 5") + """
                merge 1 2 NONE ! INDEX
                merge 1 1 NONE ! ARGUMENT
                merge 0 1 2 ! ARGUMENT
                merge 0 1 NONE ! STATE
                """);
    }
}
