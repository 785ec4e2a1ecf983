/** The promise 10: base. */
public final class Promise10BaseTest {
    public static void main(String[] args) {
        ofAlikeHeads();
        ofAHeadThatIsAnAncestor();
        ofHeadsThatBothWentOn();
        ofMerges();
        theGreatestOfMany();
        ofFortyVersions();
        throwsIndexIfThereIsNoSuchBranch();
        throwsArgumentIfBothAreTheSame();
        theFirstNamedIsThrown();
        Check.end("Promise10BaseTest");
    }

    private static void ofAlikeHeads() {
        Script.test("promise 10, \"Its base is the greatest version that is an ancestor of both heads\": alike heads", """
                branch 0 = 1
                base 0 1 = 0
                base 1 0 = 0
                add 0 0
                add 0 0
                branch 2 = 2
                base 0 2 = 2
                base 2 0 = 2
                """);
    }

    private static void ofAHeadThatIsAnAncestor() {
        Script.test("promise 10, \"an ancestor of both heads\": a head that is one of the other one", """
                branch 0 = 1
                add 0 0
                base 0 1 = 0
                base 1 0 = 0
                branch 1 = 2
                add 0 0
                base 0 2 = 1
                base 2 0 = 1
                add 2 0
                base 0 2 = 1
                branch 2 = 3
                base 0 3 = 2
                base 3 0 = 2
                base 3 2 = 1
                """);
    }

    private static void ofHeadsThatBothWentOn() {
        Script.test("promise 10, \"an ancestor of both heads\": both went on", """
                branch 0 = 1
                add 0 0
                add 1 0
                base 0 1 = 0
                base 1 0 = 0
                branch 1 = 2
                branch 2 = 3
                add 0 0
                add 2 0
                base 0 2 = 1
                base 2 0 = 1
                add 3 0
                base 1 3 = 2
                base 2 3 = 0
                # edits do not move it
                set 0 0 0 5
                set 2 0 0 6
                base 0 2 = 1
                """);
    }

    private static void ofMerges() {
        Script.test("promise 10, \"an ancestor of both heads\": by a merge", """
                branch 0 = 1
                add 0 0
                add 1 0
                branch 2 = 2
                merge 0 1 NONE = 3
                base 0 1 = 2
                base 1 0 = 2
                base 2 0 = 2
                add 1 0
                base 1 0 = 2
                merge 1 0 NONE = 5
                # the merge's own version
                base 1 0 = 3
                base 0 1 = 3
                add 0 0
                add 1 0
                base 0 1 = 3
                base 0 2 = 2
                base 1 2 = 2
                """);
    }

    private static void theGreatestOfMany() {
        Script.test("promise 10, \"the greatest version\": two merges across each other", """
                branch 0 = 1
                add 0 0
                add 1 0
                branch 1 = 2
                branch 2 = 3
                merge 0 3 NONE = 3
                merge 1 2 NONE = 4
                # 0, 1 and 2 are ancestors of both
                base 0 1 = 2
                base 1 0 = 2
                base 0 2 = 1
                base 1 2 = 1
                base 0 3 = 2
                base 1 3 = 2
                base 2 3 = 0
                """);
    }

    private static void ofFortyVersions() {
        Script.test("promise 10: with 40 versions", """
                add 0 0
                """ + Script.times(38, "set 0 0 0 1") + """
                branch 39 = 1
                base 0 1 = 39
                base 1 0 = 39
                branch 38 = 2
                base 0 2 = 38
                base 2 1 = 38
                branch 0 = 3
                base 0 3 = 0
                base 3 1 = 0
                branch 32 = 4
                base 4 0 = 32
                branch 31 = 5
                base 5 0 = 31
                base 4 5 = 31
                """);
    }

    private static void throwsIndexIfThereIsNoSuchBranch() {
        Script.test("promise 10, \"Throws IndexOutOfBoundsException if there is no such branch, of either\"", """
                base 0 1 ! INDEX
                base 1 0 ! INDEX
                branch 0 = 1
                base 0 1 = 0
                base 1 0 = 0
                base 0 2 ! INDEX
                base 2 0 ! INDEX
                base 0 -1 ! INDEX
                base -1 0 ! INDEX
                base 0 MOST ! INDEX
                base LEAST 0 ! INDEX
                branch 0
                branch 0
                branch 0
                branch 0 = 5
                base 5 4 = 0
                base 4 5 = 0
                base 6 5 ! INDEX
                base 5 6 ! INDEX
                """);
    }

    private static void throwsArgumentIfBothAreTheSame() {
        Script.test("promise 10, \"Throws IllegalArgumentException if both are the same\"", """
                base 0 0 ! ARGUMENT
                branch 0 = 1
                base 0 0 ! ARGUMENT
                base 1 1 ! ARGUMENT
                # the same head is no reason
                base 0 1 = 0
                """);
    }

    private static void theFirstNamedIsThrown() {
        Script.test("promise 10: no such branch, and both are the same", """
                base 1 1 ! INDEX
                base -1 -1 ! INDEX
                base 6 6 ! INDEX
                base MOST MOST ! INDEX
                """);
    }
}
