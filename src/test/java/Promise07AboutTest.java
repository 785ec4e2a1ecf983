/** The promise 7: about. */
public final class Promise07AboutTest {
    public static void main(String[] args) {
        theBranchOnWhichItWasMade();
        theVersionFromWhichItCame();
        theOtherOneOfAMerge();
        howManySlidesItHas();
        howManyAncestors();
        ancestorsOfMerges();
        ancestorsOfEachVersion();
        throwsIndexIfThereIsNoSuchVersion();
        throwsIndexBehindTheFortieth();
        throwsArgumentIfWhatIsOutOfRange();
        theFirstNamedIsThrown();
        Check.end("Promise07AboutTest");
    }

    private static void theBranchOnWhichItWasMade() {
        Script.test("promise 7, \"what: 0 the branch on which it was made\"", """
                about 0 0 = 0
                add 0 0
                about 1 0 = 0
                branch 1 = 1
                # it is the head of another branch too, and still made on the first
                about 1 0 = 0
                set 1 0 0 5
                about 2 0 = 1
                branch 0
                branch 0
                branch 0
                branch 2 = 5
                about 2 0 = 1
                drop 5 0 = 3
                about 3 0 = 5
                merge 4 1 NONE = 4
                about 4 0 = 4
                merge 0 5 NONE = 5
                about 5 0 = 0
                """);
    }

    private static void theVersionFromWhichItCame() {
        Script.test("promise 7, \"what: 1 the version from which it came, NONE\"", """
                about 0 1 = NONE
                add 0 0
                about 1 1 = 0
                set 0 0 0 5
                about 2 1 = 1
                branch 1 = 1
                # the head of its branch, not the version numbered before it
                add 1 0 = 1
                about 3 1 = 1
                drop 0 0 = 4
                about 4 1 = 2
                # of a merge: the head of the branch into which
                merge 1 0 NONE = 5
                about 5 1 = 3
                merge 0 1 NONE = 6
                about 6 1 = 4
                set 1 1 0 6
                about 7 1 = 5
                about 0 1 = NONE
                """);
    }

    private static void theOtherOneOfAMerge() {
        Script.test("promise 7, \"what: 2 the other one of a merge, NONE\"", """
                about 0 2 = NONE
                add 0 0
                about 1 2 = NONE
                branch 0 = 1
                merge 1 0 NONE = 2
                about 2 1 = 0
                about 2 2 = 1
                # the version 0 may be the other one
                branch 0 = 2
                merge 0 2 NONE = 3
                about 3 1 = 1
                about 3 2 = 0
                # and the same one as the first
                branch 3 = 3
                merge 3 0 NONE = 4
                about 4 1 = 3
                about 4 2 = 3
                # an edit behind a merge is of one
                set 0 0 0 5
                about 5 1 = 3
                about 5 2 = NONE
                drop 1 0 = 6
                about 6 1 = 2
                about 6 2 = NONE
                """);
    }

    private static void howManySlidesItHas() {
        Script.test("promise 7, \"what: 3 how many slides it has\"", """
                about 0 3 = 0
                add 0 0
                about 1 3 = 1
                set 0 0 0 5
                about 2 3 = 1
                """ + Script.times(6, "add 0 0") + """
                about 8 3 = 7
                add 0 0
                about 9 3 = 8
                drop 0 0 = 10
                about 10 3 = 7
                about 9 3 = 8
                branch 1 = 1
                drop 1 0 = 11
                about 11 3 = 0
                add 1 0 = 8
                merge 1 0 NONE = 13
                about 13 3 = 8
                """);
    }

    private static void howManyAncestors() {
        Script.test("promise 7, \"what: 4 how many ancestors\", \"A version has as ancestors itself, what it came from\"", """
                about 0 4 = 1
                add 0 0
                about 1 4 = 2
                add 0 0
                about 2 4 = 3
                branch 0 = 1
                # a version of another branch is none
                add 1 0
                about 3 4 = 2
                branch 1 = 2
                add 2 0
                about 4 4 = 3
                drop 0 0 = 5
                about 5 4 = 4
                """);
    }

    private static void ancestorsOfMerges() {
        Script.test("promise 7, \"what it came from, one or two versions, and all ancestors of these\"", """
                add 0 0
                branch 0 = 1
                add 1 0
                add 1 0
                merge 0 1 NONE = 4
                # itself, 1, 3, 2, and 0 but once
                about 4 4 = 5
                about 3 4 = 3
                about 1 4 = 2
                branch 4 = 2
                # both are the same version
                merge 2 0 NONE = 5
                about 5 4 = 6
                # one is an ancestor of the other one
                merge 1 0 NONE = 6
                about 6 4 = 6
                set 0 0 0 5
                about 7 4 = 6
                # by two merges
                merge 2 1 NONE = 8
                about 8 4 = 8
                """);
    }

    private static void ancestorsOfEachVersion() {
        Script.test("promise 7, \"what: 4 how many ancestors\", with 40 versions", """
                add 0 0
                """ + Script.times(37, "set 0 0 0 1") + """
                about 38 4 = 39
                about 31 4 = 32
                about 32 4 = 33
                branch 0 = 1
                branch 31 = 2
                merge 1 0 NONE = 39
                about 39 4 = 40
                about 39 1 = 0
                about 39 2 = 38
                about 38 4 = 39
                """);
    }

    private static void throwsIndexIfThereIsNoSuchVersion() {
        for (int what = 0; what <= 4; what++) {
            Script.test("promise 7, \"Throws IndexOutOfBoundsException if there is no such version\"", """
                    about -1 WHAT ! INDEX
                    about 0 WHAT
                    about 1 WHAT ! INDEX
                    about LEAST WHAT ! INDEX
                    about MOST WHAT ! INDEX
                    add 0 0
                    about 1 WHAT
                    about 2 WHAT ! INDEX
                    """.replace("WHAT", String.valueOf(what)));
        }
    }

    private static void throwsIndexBehindTheFortieth() {
        Script.test("promise 7, \"if there is no such version\", with 40", """
                add 0 0
                """ + Script.times(38, "set 0 0 0 1") + """
                about 39 0 = 0
                about 39 1 = 38
                about 39 2 = NONE
                about 39 3 = 1
                about 39 4 = 40
                about 40 0 ! INDEX
                about 40 4 ! INDEX
                about -1 3 ! INDEX
                """);
    }

    private static void throwsArgumentIfWhatIsOutOfRange() {
        Script.test("promise 7, \"Throws IllegalArgumentException if what is out of range\"", """
                about 0 -1 ! ARGUMENT
                about 0 5 ! ARGUMENT
                about 0 LEAST ! ARGUMENT
                about 0 MOST ! ARGUMENT
                about 0 0 = 0
                about 0 1 = NONE
                about 0 2 = NONE
                about 0 3 = 0
                about 0 4 = 1
                add 0 0
                about 1 -1 ! ARGUMENT
                about 1 0 = 0
                about 1 1 = 0
                about 1 2 = NONE
                about 1 3 = 1
                about 1 4 = 2
                about 1 5 ! ARGUMENT
                """);
    }

    private static void theFirstNamedIsThrown() {
        Script.test("promise 7: no such version, and what is out of range", """
                about 1 5 ! INDEX
                about 1 -1 ! INDEX
                about -1 5 ! INDEX
                about -1 -1 ! INDEX
                about 0 5 ! ARGUMENT
                """);
    }
}
