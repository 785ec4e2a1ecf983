/** The promise 4: set. */
public final class Promise04SetTest {
    /** The version 39 is the head of the branch 0; the branch 1 stands at the version 0. */
    private static final String FORTY_VERSIONS = "add 0 0\n" + Script.times(38, "set 0 0 0 1") + "branch 0\n";

    public static void main(String[] args) {
        setsTheValueOfAnObject();
        branchItsNumber();
        slideInItsHead();
        slideOfAFullDeck();
        slidesUpToTheTwentieth();
        objectZeroToThree();
        valueZeroTo999();
        zeroIfItIsNotThere();
        returnsTheValueBefore();
        makesANewVersion();
        throwsStateIfThereAre40Versions();
        theFirstNamedIsThrown();
        Check.end("Promise04SetTest");
    }

    private static void setsTheValueOfAnObject() {
        Script.test("promise 4, \"Sets the value of an object\": of no other slide, object or version", """
                add 0 0
                add 0 1
                branch 2 = 1
                set 0 0 1 50 = 0
                objects 3 0 = 0 50 0 0
                objects 3 1 = 0 0 0 0
                set 0 1 1 60 = 0
                objects 4 0 = 0 50 0 0
                objects 4 1 = 0 60 0 0
                set 0 0 2 70 = 0
                objects 5 0 = 0 50 70 0
                set 1 0 1 80 = 0
                objects 6 0 = 0 80 0 0
                # the ones before are as they were
                objects 2 0 = 0 0 0 0
                objects 3 0 = 0 50 0 0
                objects 3 1 = 0 0 0 0
                objects 4 0 = 0 50 0 0
                objects 5 0 = 0 50 70 0
                deck 6 = 0 1
                """);
    }

    private static void branchItsNumber() {
        Script.test("promise 4, \"Throws IndexOutOfBoundsException if there is no such branch\"", """
                add 0 0
                set -1 0 0 1 ! INDEX
                set 1 0 0 1 ! INDEX
                set LEAST 0 0 1 ! INDEX
                set MOST 0 0 1 ! INDEX
                set 0 0 0 1 = 0
                branch 1 = 1
                set 2 0 0 1 ! INDEX
                set 1 0 0 1 = 0
                branch 1
                branch 1
                branch 1
                branch 1 = 5
                set 6 0 0 1 ! INDEX
                set 5 0 0 1 = 0
                head 5 = 4
                """);
    }

    private static void slideInItsHead() {
        Script.test("promise 4, \"Throws IndexOutOfBoundsException if there is no such .. slide in its head\"", """
                set 0 0 0 1 ! INDEX
                add 0 0
                set 0 -1 0 1 ! INDEX
                set 0 1 0 1 ! INDEX
                set 0 LEAST 0 1 ! INDEX
                set 0 MOST 0 1 ! INDEX
                set 0 0 0 1 = 0
                # a slide of another head alone
                add 0 1 = 1
                branch 2 = 1
                set 1 1 0 1 ! INDEX
                set 0 1 0 1 = 0
                set 1 0 0 2 = 1
                # a slide that was dropped
                drop 0 0
                set 0 0 0 1 ! INDEX
                set 1 0 0 3 = 2
                set 0 1 0 3 = 1
                """);
    }

    private static void slideOfAFullDeck() {
        Script.test("promise 4: the first and the last slide of a full deck", Script.times(8, "add 0 0"), """
                set 0 8 3 1 ! INDEX
                set 0 7 0 1 = 0
                set 0 7 3 2 = 0
                set 0 0 0 3 = 0
                set 0 0 3 4 = 0
                objects 12 7 = 1 0 0 2
                objects 12 6 = 0 0 0 0
                objects 12 1 = 0 0 0 0
                objects 12 0 = 3 0 0 4
                """);
    }

    private static void slidesUpToTheTwentieth() {
        Script.test("promise 4: the slide 19", Script.times(8, "add 0 0"), "branch 0\n", Script.times(8, "add 1 0"),
                "branch 0\n", Script.times(4, "add 2 0"), """
                set 2 20 0 1 ! INDEX
                set 2 19 3 999 = 0
                objects 21 19 = 0 0 0 999
                set 0 19 3 999 ! INDEX
                set 2 0 3 999 ! INDEX
                """);
    }

    private static void objectZeroToThree() {
        Script.test("promise 4, \"object: 0 to 3\", \"no such .. object\"", """
                add 0 0
                add 0 0
                set 0 1 -1 1 ! INDEX
                set 0 1 4 1 ! INDEX
                set 0 0 -1 1 ! INDEX
                set 0 0 4 1 ! INDEX
                set 0 0 LEAST 1 ! INDEX
                set 0 0 MOST 1 ! INDEX
                set 0 0 0 10 = 0
                set 0 0 1 20 = 0
                set 0 0 2 30 = 0
                set 0 0 3 40 = 0
                objects 6 0 = 10 20 30 40
                objects 6 1 = 0 0 0 0
                """);
    }

    private static void valueZeroTo999() {
        Script.test("promise 4, \"value: 0 to 999\", \"Throws IllegalArgumentException if value is out of range\"", """
                add 0 0
                set 0 0 0 -1 ! ARGUMENT
                set 0 0 0 1000 ! ARGUMENT
                set 0 0 0 LEAST ! ARGUMENT
                set 0 0 0 MOST ! ARGUMENT
                set 0 0 0 0 = 0
                set 0 0 0 1 = 0
                set 0 0 0 998 = 1
                set 0 0 0 999 = 998
                set 0 0 0 1000 ! ARGUMENT
                set 0 0 0 -1 ! ARGUMENT
                value 5 0 0 = 999
                head 0 = 5
                """);
    }

    private static void zeroIfItIsNotThere() {
        Script.test("promise 4, \"0 if it is not there\"", """
                add 0 0
                rule 0 0 5 5
                set 0 0 0 4
                blocks 2 = 1
                set 0 0 0 0 = 4
                value 3 0 0 = 0
                blocks 3 = 0
                deck 3 = 0
                set 0 0 0 1 = 0
                blocks 4 = 1
                """);
    }

    private static void returnsTheValueBefore() {
        Script.test("promise 4, \"Returns the value before\"", """
                add 0 0
                add 0 1
                set 0 0 3 7 = 0
                set 0 1 3 8 = 0
                set 0 0 3 9 = 7
                set 0 0 3 1000 ! ARGUMENT
                set 0 0 3 9 = 9
                set 0 0 3 0 = 9
                set 0 0 3 5 = 0
                # of its head, not of another one
                branch 3 = 1
                set 1 0 3 6 = 7
                set 0 0 3 6 = 5
                set 0 1 3 6 = 8
                """);
    }

    private static void makesANewVersion() {
        Script.test("promise 4, \"Each edit of a branch makes a new version\": also one to the same value", """
                add 0 0
                set 0 0 0 5
                head 0 = 2
                about 2 0 = 0
                about 2 1 = 1
                about 2 2 = NONE
                set 0 0 0 5 = 5
                head 0 = 3
                about 3 1 = 2
                branch 1 = 1
                set 1 0 0 0 = 0
                head 1 = 4
                about 4 0 = 1
                about 4 1 = 1
                about 5 0 ! INDEX
                head 0 = 3
                """);
    }

    private static void throwsStateIfThereAre40Versions() {
        Script.test("promise 4, \"Throws IllegalStateException if there are 40 versions\"", """
                add 0 0
                """ + Script.times(37, "set 0 0 0 1") + """
                # there are 39
                head 0 = 38
                set 0 0 0 2 = 1
                # there are 40
                head 0 = 39
                set 0 0 0 3 ! STATE
                set 0 0 0 2 ! STATE
                branch 1 = 1
                set 1 0 0 3 ! STATE
                value 39 0 0 = 2
                head 0 = 39
                about 40 0 ! INDEX
                """);
    }

    private static void theFirstNamedIsThrown() {
        Script.test("promise 4: no such branch, slide or object, and value is out of range", """
                add 0 0
                set 1 0 0 1000 ! INDEX
                set 0 1 0 1000 ! INDEX
                set 0 0 4 1000 ! INDEX
                set 0 0 -1 -1 ! INDEX
                set 0 0 0 1000 ! ARGUMENT
                """);
        Script.test("promise 4: what is thrown with 40 versions", FORTY_VERSIONS, """
                set 2 0 0 1 ! INDEX
                set 1 0 0 1 ! INDEX
                set 0 1 0 1 ! INDEX
                set 0 0 4 1 ! INDEX
                set 0 0 4 1000 ! INDEX
                set 0 0 0 1000 ! ARGUMENT
                set 0 0 0 -1 ! ARGUMENT
                set 0 0 0 999 ! STATE
                """);
    }
}
