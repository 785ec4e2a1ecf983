/** The promise 15: tighten. */
public final class Promise15TightenTest {
    /** The slide 0 with 5, 6 and 7 in the versions 2, 3 and 4. */
    private static final String FIVE_SIX_SEVEN = """
            add 0 0
            set 0 0 0 5
            set 0 0 0 6
            set 0 0 0 7
            """;

    public static void main(String[] args) {
        tightensARule();
        leastTheLeastOrMore();
        mostTheMostOrLessButLeastOrMore();
        fromTheWidestToTheNarrowest();
        returnsHowManyAreBlockedThatWereNot();
        countsVersionsOfAllBranches();
        countsNoneThatWasBlockedBefore();
        countsNoneByWarnings();
        countsNoneThatIsWaived();
        countsAllVersions();
        throwsIndexIfThereIsNoSuchRule();
        throwsArgumentIfLeastIsOutOfRange();
        throwsArgumentIfMostIsOutOfRange();
        theFirstNamedIsThrown();
        Check.end("Promise15TightenTest");
    }

    private static void tightensARule() {
        Script.test("promise 15, \"Tightens a rule\": that one alone", FIVE_SIX_SEVEN, """
                rule 0 0 1 999
                rule 0 0 1 999
                rule 2 0 1 999
                show 0 = 4
                tighten 0 6 6 = 2
                blocks 2 = 1
                blocks 3 = 0
                blocks 4 = 1
                warnings 2 = 0
                shown 0 = NONE
                tighten 1 7 7 = 1
                blocks 2 = 2
                blocks 3 = 1
                blocks 4 = 1
                tighten 2 7 7 = 0
                warnings 2 = 1
                warnings 3 = 1
                warnings 4 = 0
                # no version is made by that
                head 0 = 4
                about 5 0 ! INDEX
                # what is set then has to keep to it
                set 0 0 0 6 = 7
                blocks 5 = 1
                """);
    }

    private static void leastTheLeastOrMore() {
        Script.test("promise 15, \"least: the least or more\", \"the least can become greater\"", FIVE_SIX_SEVEN, """
                rule 0 0 5 10
                tighten 0 4 10 ! ARGUMENT
                tighten 0 5 10 = 0
                blocks 2 = 0
                tighten 0 6 10 = 1
                blocks 2 = 1
                blocks 3 = 0
                # the least is 6 now
                tighten 0 5 10 ! ARGUMENT
                tighten 0 6 10 = 0
                tighten 0 7 10 = 1
                blocks 3 = 1
                blocks 4 = 0
                tighten 0 6 10 ! ARGUMENT
                tighten 0 8 10 = 1
                blocks 4 = 1
                """);
    }

    private static void mostTheMostOrLessButLeastOrMore() {
        Script.test("promise 15, \"most: the most or less, but least or more\", \"the most less\"", FIVE_SIX_SEVEN, """
                rule 0 0 4 7
                tighten 0 4 8 ! ARGUMENT
                tighten 0 4 7 = 0
                blocks 4 = 0
                tighten 0 4 6 = 1
                blocks 4 = 1
                blocks 3 = 0
                # the most is 6 now
                tighten 0 4 7 ! ARGUMENT
                tighten 0 4 6 = 0
                tighten 0 4 5 = 1
                blocks 3 = 1
                blocks 2 = 0
                tighten 0 4 3 ! ARGUMENT
                tighten 0 5 4 ! ARGUMENT
                tighten 0 4 4 = 1
                blocks 2 = 1
                # there is nothing narrower
                tighten 0 4 4 = 0
                tighten 0 5 4 ! ARGUMENT
                tighten 0 4 3 ! ARGUMENT
                tighten 0 5 5 ! ARGUMENT
                tighten 0 3 3 ! ARGUMENT
                """);
    }

    private static void fromTheWidestToTheNarrowest() {
        Script.test("promise 15: from 1 to 999", FIVE_SIX_SEVEN, """
                rule 0 0 1 999
                rule 0 0 1 999
                rule 0 0 1 999
                tighten 0 0 999 ! ARGUMENT
                tighten 0 1 1000 ! ARGUMENT
                tighten 0 1 0 ! ARGUMENT
                tighten 0 1000 1000 ! ARGUMENT
                tighten 0 1000 999 ! ARGUMENT
                tighten 0 LEAST 999 ! ARGUMENT
                tighten 0 1 MOST ! ARGUMENT
                tighten 0 MOST MOST ! ARGUMENT
                tighten 0 LEAST LEAST ! ARGUMENT
                tighten 0 1 999 = 0
                tighten 0 2 998 = 0
                tighten 1 999 999 = 3
                tighten 2 1 1 = 0
                blocks 4 = 2
                """);
    }

    private static void returnsHowManyAreBlockedThatWereNot() {
        Script.test("promise 15, \"Returns how many versions are blocked by that that were not\"", FIVE_SIX_SEVEN, """
                rule 0 0 1 999
                tighten 0 5 7 = 0
                tighten 0 5 6 = 1
                tighten 0 5 5 = 1
                # one with two slides that break it is one
                add 0 0
                set 0 1 0 5
                set 0 0 0 5
                blocks 7 = 0
                rule 0 0 5 6 = 1
                tighten 1 6 6 = 2
                blocks 7 = 2
                """);
    }

    private static void countsVersionsOfAllBranches() {
        Script.test("promise 15: versions of all branches, and those of no head", """
                add 0 0
                branch 1 = 1
                set 0 0 3 9
                set 1 0 3 8
                set 1 0 3 9
                set 1 0 3 0
                rule 0 3 1 9
                tighten 0 1 8 = 2
                blocks 2 = 1
                blocks 3 = 0
                blocks 4 = 1
                blocks 5 = 0
                """);
    }

    private static void countsNoneThatWasBlockedBefore() {
        Script.test("promise 15, \"that were not\": blocked by that rule, or by another one", FIVE_SIX_SEVEN, """
                set 0 0 1 50
                rule 0 0 6 999
                rule 0 0 1 999
                rule 1 1 50 50
                # the version 2 is blocked by the first
                blocks 2 = 1
                tighten 1 6 999 = 0
                blocks 2 = 2
                tighten 1 7 999 = 1
                tighten 0 7 7 = 0
                blocks 3 = 2
                # the versions 4 and 5
                tighten 2 50 50 = 0
                tighten 0 7 7 = 0
                tighten 1 8 999 = 2
                blocks 4 = 1
                blocks 5 = 1
                """);
    }

    private static void countsNoneByWarnings() {
        Script.test("promise 15: the rank 2 blocks none", FIVE_SIX_SEVEN, """
                rule 2 0 1 999
                tighten 0 6 6 = 0
                warnings 2 = 1
                warnings 3 = 0
                warnings 4 = 1
                blocks 2 = 0
                """);
    }

    private static void countsNoneThatIsWaived() {
        Script.test("promise 15: the rank 1, without a waiver today", FIVE_SIX_SEVEN, """
                rule 1 0 1 999
                rule 1 0 1 999
                waive 0 0 1
                pass 1
                # the last day of the waiver
                tighten 0 6 999 = 0
                blocks 2 = 0
                # another rule
                tighten 1 6 999 = 1
                blocks 2 = 1
                pass 1
                blocks 2 = 2
                tighten 0 7 999 = 1
                blocks 3 = 1
                waive 0 0 2
                blocks 3 = 0
                # another slide is not waived
                add 0 1 = 1
                set 0 1 0 7
                blocks 6 = 0
                tighten 0 8 8 = 1
                blocks 6 = 1
                firstBlock 6 = 1
                # nor is the other rule: the versions 3 to 5
                tighten 1 8 8 = 3
                """);
    }

    private static void countsAllVersions() {
        Script.test("promise 15: 38 of 40 versions", """
                add 0 0
                """ + Script.times(38, "set 0 0 0 5") + """
                rule 0 0 1 999
                tighten 0 5 5 = 0
                rule 1 0 5 999 = 1
                tighten 1 6 999 = 38
                blocks 39 = 1
                blocks 2 = 1
                blocks 1 = 0
                blocks 0 = 0
                """);
    }

    private static void throwsIndexIfThereIsNoSuchRule() {
        Script.test("promise 15, \"Throws IndexOutOfBoundsException if there is no such rule\"", """
                tighten 0 1 1 ! INDEX
                rule 0 0 1 999
                tighten -1 1 1 ! INDEX
                tighten 1 1 1 ! INDEX
                tighten LEAST 1 1 ! INDEX
                tighten MOST 1 1 ! INDEX
                tighten 0 1 998 = 0
                """ + Script.times(7, "rule 0 0 1 999") + """
                tighten 7 1 1 = 0
                tighten 8 1 1 ! INDEX
                """);
    }

    private static void throwsArgumentIfLeastIsOutOfRange() {
        Script.test("promise 15, \"Throws IllegalArgumentException if least .. is out of range\"", FIVE_SIX_SEVEN, """
                rule 0 0 5 7
                tighten 0 4 7 ! ARGUMENT
                tighten 0 4 4 ! ARGUMENT
                tighten 0 4 5 ! ARGUMENT
                tighten 0 8 8 ! ARGUMENT
                tighten 0 8 7 ! ARGUMENT
                tighten 0 0 6 ! ARGUMENT
                # the bounds are as they were
                blocks 2 = 0
                blocks 4 = 0
                tighten 0 5 7 = 0
                tighten 0 7 7 = 2
                """);
    }

    private static void throwsArgumentIfMostIsOutOfRange() {
        Script.test("promise 15, \"Throws IllegalArgumentException if .. most is out of range\"", FIVE_SIX_SEVEN, """
                rule 0 0 5 7
                tighten 0 5 8 ! ARGUMENT
                tighten 0 7 8 ! ARGUMENT
                tighten 0 6 5 ! ARGUMENT
                tighten 0 5 4 ! ARGUMENT
                tighten 0 7 6 ! ARGUMENT
                tighten 0 6 1000 ! ARGUMENT
                # the bounds are as they were
                blocks 2 = 0
                blocks 4 = 0
                tighten 0 5 7 = 0
                tighten 0 5 5 = 2
                """);
    }

    private static void theFirstNamedIsThrown() {
        Script.test("promise 15: no such rule, and least or most is out of range", """
                rule 0 0 5 7
                tighten 1 4 7 ! INDEX
                tighten 1 0 1000 ! INDEX
                tighten -1 6 5 ! INDEX
                tighten 0 6 5 ! ARGUMENT
                """);
    }
}
