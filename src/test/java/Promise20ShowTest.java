/** The promise 20: show. */
public final class Promise20ShowTest {
    public static void main(String[] args) {
        returnsTheVersion();
        withItsHeadOfThen();
        inPlaceOfWhatWasShown();
        eachBranchItsOwn();
        throwsIndexIfThereIsNoSuchBranch();
        throwsStateIfItsHeadIsBlockedByTheRank0();
        throwsStateIfItsHeadIsBlockedByTheRank1();
        warningsAreNoReason();
        aRefusedShowLeavesWhatWasShown();
        withFortyVersions();
        Check.end("Promise20ShowTest");
    }

    private static void returnsTheVersion() {
        Script.test("promise 20, \"Shows a branch\", \"Returns the version\"", """
                shown 0 = NONE
                show 0 = 0
                shown 0 = 0
                add 0 0
                show 0 = 1
                shown 0 = 1
                # the same once more
                show 0 = 1
                shown 0 = 1
                # no version is made by that
                head 0 = 1
                about 2 0 ! INDEX
                """);
    }

    private static void withItsHeadOfThen() {
        Script.test("promise 20, \"A branch is shown with its head of then\"", """
                add 0 0
                show 0 = 1
                set 0 0 0 5
                shown 0 = 1
                branch 0 = 1
                merge 1 0 NONE = 3
                show 1 = 3
                drop 1 0
                shown 1 = 3
                shown 0 = 1
                show 0 = 2
                shown 0 = 2
                """);
    }

    private static void inPlaceOfWhatWasShown() {
        Script.test("promise 20, \"in place of what was shown of it before\"", """
                add 0 0
                set 0 0 0 5
                show 0 = 2
                set 0 0 0 9
                show 0 = 3
                shown 0 = 3
                rule 0 0 1 8
                # the version before does not come back
                shown 0 = NONE
                set 0 0 0 8
                shown 0 = NONE
                show 0 = 4
                shown 0 = 4
                """);
    }

    private static void eachBranchItsOwn() {
        Script.test("promise 20: each branch its own", """
                add 0 0
                branch 1 = 1
                branch 0 = 2
                show 1 = 1
                shown 0 = NONE
                shown 1 = 1
                shown 2 = NONE
                show 2 = 0
                set 1 0 0 5
                show 0 = 1
                show 1 = 2
                shown 0 = 1
                shown 1 = 2
                shown 2 = 0
                """);
    }

    private static void throwsIndexIfThereIsNoSuchBranch() {
        Script.test("promise 20, \"Throws IndexOutOfBoundsException if there is no such branch\"", """
                show -1 ! INDEX
                show 1 ! INDEX
                show LEAST ! INDEX
                show MOST ! INDEX
                show 0 = 0
                branch 0 = 1
                show 1 = 0
                show 2 ! INDEX
                branch 0
                branch 0
                branch 0
                branch 0 = 5
                show 5 = 0
                show 6 ! INDEX
                # also where a head is blocked
                add 0 0
                set 0 0 0 5
                rule 0 0 1 1
                show 6 ! INDEX
                show -1 ! INDEX
                show 0 ! STATE
                """);
    }

    private static void throwsStateIfItsHeadIsBlockedByTheRank0() {
        Script.test("promise 20, \"Throws IllegalStateException if its head is blocked\", by the rank 0", """
                add 0 0
                rule 0 0 5 9
                set 0 0 0 4
                show 0 ! STATE
                shown 0 = NONE
                set 0 0 0 5
                show 0 = 3
                set 0 0 0 9
                show 0 = 4
                set 0 0 0 10
                show 0 ! STATE
                shown 0 = 4
                set 0 0 0 0
                show 0 = 6
                # not a version before, nor the head of another branch
                branch 5 = 1
                show 1 ! STATE
                show 0 = 6
                # tightened
                set 0 0 0 9
                show 0 = 7
                tighten 0 5 8 = 2
                show 0 ! STATE
                """);
    }

    private static void throwsStateIfItsHeadIsBlockedByTheRank1() {
        Script.test("promise 20, \"if its head is blocked\", by the rank 1 without a waiver today", """
                add 0 0
                add 0 1
                set 0 0 0 9
                rule 1 0 1 8
                rule 1 0 1 9
                show 0 ! STATE
                waive 0 1 9
                waive 1 0 9
                show 0 ! STATE
                waive 0 0 2
                show 0 = 3
                pass 2
                # its last day
                show 0 = 3
                pass 1
                show 0 ! STATE
                waive 0 0 3
                show 0 = 3
                """);
    }

    private static void warningsAreNoReason() {
        Script.test("promise 20: breaks of the rank 2 do not block", """
                add 0 0
                set 0 0 0 9
                rule 2 0 1 8
                warnings 2 = 1
                show 0 = 2
                shown 0 = 2
                """);
    }

    private static void aRefusedShowLeavesWhatWasShown() {
        Script.test("promise 20, \"A call that throws an exception changes nothing\"", """
                add 0 0
                set 0 0 0 8
                show 0 = 2
                rule 0 0 1 8
                set 0 0 0 9
                show 0 ! STATE
                shown 0 = 2
                branch 3 = 1
                show 1 ! STATE
                shown 1 = NONE
                shown 0 = 2
                """);
    }

    private static void withFortyVersions() {
        Script.test("promise 20: the last of forty versions", """
                add 0 0
                """ + Script.times(38, "set 0 0 0 9") + """
                show 0 = 39
                shown 0 = 39
                branch 38 = 1
                show 1 = 38
                rule 0 0 1 8
                show 0 ! STATE
                """);
    }
}
