/** The promise 2: branch. */
public final class Promise02BranchTest {
    public static void main(String[] args) {
        returnsItsNumber();
        versionWhichIsItsHead();
        makesNoVersion();
        nothingIsShownOfIt();
        throwsIndexIfThereIsNoSuchVersion();
        throwsIndexBehindTheLastOfFortyVersions();
        throwsStateIfThereAreSix();
        theFirstNamedIsThrown();
        Check.end("Promise02BranchTest");
    }

    private static void returnsItsNumber() {
        Script.test("promise 2, \"Begins a branch\", \"Returns its number\", \"Branches are numbered from 0\"", """
                head 1 ! INDEX
                branch 0 = 1
                head 1 = 0
                head 2 ! INDEX
                branch 0 = 2
                head 2 = 0
                head 3 ! INDEX
                """);
    }

    private static void versionWhichIsItsHead() {
        Script.test("promise 2, \"version: which is its head\"", """
                add 0 0
                add 0 0
                branch 0 = 1
                branch 1 = 2
                branch 2 = 3
                head 0 = 2
                head 1 = 0
                head 2 = 1
                head 3 = 2
                # a version that was made on another branch, and one of a merge
                add 3 0 = 2
                branch 3 = 4
                head 4 = 3
                merge 1 3 NONE = 4
                branch 4 = 5
                head 5 = 4
                deck 4 = 2 1 0
                head 1 = 4
                """);
    }

    private static void makesNoVersion() {
        Script.test("promise 2: a branch is begun without a version, and goes its own way then", """
                add 0 0
                branch 1
                about 2 0 ! INDEX
                about 1 0 = 0
                set 1 0 0 5
                about 2 0 = 1
                about 2 1 = 1
                head 0 = 1
                head 1 = 2
                objects 1 0 = 0 0 0 0
                objects 2 0 = 5 0 0 0
                set 0 0 0 6
                head 1 = 2
                objects 2 0 = 5 0 0 0
                """);
    }

    private static void nothingIsShownOfIt() {
        Script.test("promise 2: nothing is shown of a new branch", """
                show 0 = 0
                branch 0 = 1
                shown 1 = NONE
                shown 0 = 0
                show 1 = 0
                shown 1 = 0
                """);
    }

    private static void throwsIndexIfThereIsNoSuchVersion() {
        Script.test("promise 2, \"Throws IndexOutOfBoundsException if there is no such version\"", """
                branch -1 ! INDEX
                branch 1 ! INDEX
                branch LEAST ! INDEX
                branch MOST ! INDEX
                branch 0 = 1
                add 0 0
                branch 2 ! INDEX
                branch 1 = 2
                head 2 = 1
                """);
    }

    private static void throwsIndexBehindTheLastOfFortyVersions() {
        Script.test("promise 2, \"if there is no such version\", with 40 versions", """
                add 0 0
                """ + Script.times(38, "set 0 0 0 1") + """
                branch 40 ! INDEX
                branch -1 ! INDEX
                branch 39 = 1
                branch 38 = 2
                branch 0 = 3
                head 1 = 39
                head 2 = 38
                head 3 = 0
                """);
    }

    private static void throwsStateIfThereAreSix() {
        Script.test("promise 2, \"Throws IllegalStateException if there are 6\"", """
                add 0 0
                branch 0 = 1
                branch 0 = 2
                branch 0 = 3
                branch 0 = 4
                # there are 5
                head 5 ! INDEX
                branch 1 = 5
                # there are 6
                branch 1 ! STATE
                branch 0 ! STATE
                head 5 = 1
                head 6 ! INDEX
                add 5 0 = 1
                head 5 = 2
                branch 2 ! STATE
                """);
    }

    private static void theFirstNamedIsThrown() {
        Script.test("promise 2: no such version, and there are 6", Script.times(5, "branch 0"), """
                branch 1 ! INDEX
                branch -1 ! INDEX
                branch MOST ! INDEX
                branch 0 ! STATE
                """);
    }
}
