/** The promise 5: drop. */
public final class Promise05DropTest {
    public static void main(String[] args) {
        dropsASlide();
        dropsTheOnlySlide();
        dropsOfAFullDeck();
        dropsOfOneBranchAlone();
        branchItsNumber();
        slideInItsHead();
        returnsTheVersion();
        throwsStateIfThereAre40Versions();
        theFirstNamedIsThrown();
        Check.end("Promise05DropTest");
    }

    private static void dropsASlide() {
        Script.test("promise 5, \"Drops a slide\": the one in the middle, the last, the first", """
                add 0 0
                add 0 1
                add 0 2
                add 0 3
                set 0 0 1 10
                set 0 1 1 11
                set 0 2 1 12
                set 0 3 1 13
                drop 0 1 = 9
                deck 9 = 0 2 3
                objects 9 0 = 0 10 0 0
                objects 9 2 = 0 12 0 0
                objects 9 3 = 0 13 0 0
                value 9 1 1 = NONE
                drop 0 3 = 10
                deck 10 = 0 2
                objects 10 2 = 0 12 0 0
                drop 0 0 = 11
                deck 11 = 2
                objects 11 2 = 0 12 0 0
                value 11 0 1 = NONE
                # the decks before are as they were
                deck 8 = 0 1 2 3
                objects 8 1 = 0 11 0 0
                deck 9 = 0 2 3
                deck 10 = 0 2
                """);
    }

    private static void dropsTheOnlySlide() {
        Script.test("promise 5, \"Drops a slide\": the only one, and its number is not given again", """
                add 0 0 = 0
                set 0 0 0 5
                drop 0 0 = 3
                deck 3 =
                about 3 3 = 0
                drop 0 0 ! INDEX
                add 0 1 ! INDEX
                add 0 0 = 1
                deck 4 = 1
                objects 4 1 = 0 0 0 0
                value 4 0 0 = NONE
                """);
    }

    private static void dropsOfAFullDeck() {
        Script.test("promise 5, \"Drops a slide\": of a full deck", Script.times(8, "add 0 0"), """
                set 0 0 3 9
                drop 0 0 = 10
                deck 10 = 7 6 5 4 3 2 1
                about 10 3 = 7
                drop 0 7 = 11
                deck 11 = 6 5 4 3 2 1
                # there is room again
                add 0 6 = 8
                add 0 7 = 9
                deck 13 = 6 5 4 3 2 1 8 9
                objects 13 9 = 0 0 0 0
                add 0 8 ! STATE
                """);
    }

    private static void dropsOfOneBranchAlone() {
        Script.test("promise 5, \"Drops a slide\": of that branch alone", """
                add 0 0
                set 0 0 2 5
                branch 2 = 1
                drop 0 0 = 3
                deck 3 =
                deck 2 = 0
                head 1 = 2
                set 1 0 2 6 = 5
                drop 1 0 = 5
                deck 5 =
                deck 4 = 0
                objects 4 0 = 0 0 6 0
                """);
    }

    private static void branchItsNumber() {
        Script.test("promise 5, \"Throws IndexOutOfBoundsException if there is no such branch\"", """
                add 0 0
                drop -1 0 ! INDEX
                drop 1 0 ! INDEX
                drop LEAST 0 ! INDEX
                drop MOST 0 ! INDEX
                branch 1 = 1
                drop 2 0 ! INDEX
                drop 1 0 = 2
                branch 1
                branch 1
                branch 1
                branch 1 = 5
                drop 6 0 ! INDEX
                drop 5 0 = 3
                drop 0 0 = 4
                """);
    }

    private static void slideInItsHead() {
        Script.test("promise 5, \"Throws IndexOutOfBoundsException if there is no such .. slide in its head\"", """
                drop 0 0 ! INDEX
                add 0 0
                drop 0 -1 ! INDEX
                drop 0 1 ! INDEX
                drop 0 LEAST ! INDEX
                drop 0 MOST ! INDEX
                # a slide of another head alone
                branch 1 = 1
                add 0 1 = 1
                drop 1 1 ! INDEX
                drop 0 1 = 3
                # a slide that was dropped
                drop 0 1 ! INDEX
                drop 0 0 = 4
                drop 0 0 ! INDEX
                drop 1 0 = 5
                """);
        Script.test("promise 5: the slide 19", Script.times(8, "add 0 0"), "branch 0\n", Script.times(8, "add 1 0"),
                "branch 0\n", Script.times(4, "add 2 0"), """
                drop 2 20 ! INDEX
                drop 1 19 ! INDEX
                drop 2 19 = 21
                deck 21 = 18 17 16
                drop 2 19 ! INDEX
                """);
    }

    private static void returnsTheVersion() {
        Script.test("promise 5, \"Returns the version\", \"Each edit of a branch makes a new version\"", """
                add 0 0
                add 0 0
                branch 2 = 1
                drop 1 0 = 3
                head 1 = 3
                head 0 = 2
                about 3 0 = 1
                about 3 1 = 2
                about 3 2 = NONE
                about 3 3 = 1
                about 3 4 = 4
                drop 0 1 = 4
                head 0 = 4
                about 4 0 = 0
                about 4 1 = 2
                about 5 0 ! INDEX
                """);
    }

    private static void throwsStateIfThereAre40Versions() {
        Script.test("promise 5, \"Throws IllegalStateException if there are 40 versions\"", """
                add 0 0
                add 0 0
                """ + Script.times(36, "set 0 0 0 1") + """
                # there are 39
                head 0 = 38
                drop 0 1 = 39
                # there are 40
                drop 0 0 ! STATE
                branch 38 = 1
                drop 1 1 ! STATE
                deck 39 = 0
                head 0 = 39
                head 1 = 38
                about 40 0 ! INDEX
                """);
    }

    private static void theFirstNamedIsThrown() {
        Script.test("promise 5: no such branch, or slide in its head, and there are 40 versions", """
                add 0 0
                add 0 0
                """ + Script.times(36, "set 0 0 0 1") + """
                drop 0 1 = 39
                drop -1 0 ! INDEX
                drop 1 0 ! INDEX
                drop 0 1 ! INDEX
                drop 0 2 ! INDEX
                drop 0 -1 ! INDEX
                drop 0 0 ! STATE
                """);
    }
}
