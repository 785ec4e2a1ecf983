/** The promise 21: shown. */
public final class Promise21ShownTest {
    public static void main(String[] args) {
        noneIfNothingIs();
        returnsWhatIsShown();
        noneIfItIsBlockedByARule();
        noneIfItIsBlockedByATightenedRule();
        asLongAsItIsBlocked();
        warningsAreNoReason();
        theShownVersionCountsNotTheHead();
        throwsIndexIfThereIsNoSuchBranch();
        Check.end("Promise21ShownTest");
    }

    private static void noneIfNothingIs() {
        Script.test("promise 21, \"NONE if nothing is\"", """
                shown 0 = NONE
                add 0 0
                shown 0 = NONE
                branch 1 = 1
                show 0 = 1
                shown 1 = NONE
                shown 0 = 1
                merge 1 0 NONE = 2
                shown 1 = NONE
                # the version 0 is an answer too
                branch 0 = 2
                shown 2 = NONE
                show 2 = 0
                shown 2 = 0
                """);
    }

    private static void returnsWhatIsShown() {
        Script.test("promise 21, \"Returns what is shown of a branch\"", """
                add 0 0
                show 0 = 1
                shown 0 = 1
                shown 0 = 1
                set 0 0 0 5
                drop 0 0
                shown 0 = 1
                branch 2
                merge 1 0 NONE = 4
                show 1 = 4
                shown 1 = 4
                shown 0 = 1
                pass 100
                shown 0 = 1
                """);
    }

    private static void noneIfItIsBlockedByARule() {
        Script.test("promise 21, \"or what was shown is blocked now\": by a rule that was told since", """
                add 0 0
                set 0 0 0 9
                branch 1 = 1
                show 0 = 2
                show 1 = 1
                rule 0 0 1 9
                shown 0 = 2
                rule 0 0 1 8
                shown 0 = NONE
                shown 1 = 1
                """);
        Script.test("promise 21, \"or what was shown is blocked now\": by each rank", """
                add 0 0
                set 0 0 0 9
                show 0 = 2
                rule 2 0 1 8
                shown 0 = 2
                rule 1 0 1 8
                shown 0 = NONE
                waive 1 0 0
                shown 0 = 2
                rule 0 0 10 10
                shown 0 = NONE
                """);
    }

    private static void noneIfItIsBlockedByATightenedRule() {
        Script.test("promise 21, \"or what was shown is blocked now\": by a rule that was tightened", """
                add 0 0
                set 0 0 0 9
                show 0 = 2
                rule 0 0 1 999
                shown 0 = 2
                tighten 0 9 999 = 0
                shown 0 = 2
                tighten 0 9 9 = 0
                shown 0 = 2
                rule 0 0 1 999
                tighten 1 10 999 = 1
                shown 0 = NONE
                """);
    }

    private static void asLongAsItIsBlocked() {
        Script.test("promise 21, \"it is not shown any more as long as that version is blocked\"", """
                add 0 0
                set 0 0 0 9
                show 0 = 2
                rule 1 0 1 8
                shown 0 = NONE
                waive 0 0 3
                shown 0 = 2
                pass 3
                # the last day
                shown 0 = 2
                pass 1
                shown 0 = NONE
                # shown again, without a show
                waive 0 0 4
                shown 0 = 2
                pass 1
                shown 0 = NONE
                pass 100
                shown 0 = NONE
                waive 0 0 999
                shown 0 = 2
                """);
    }

    private static void warningsAreNoReason() {
        Script.test("promise 21: breaks of the rank 2 do not block", """
                add 0 0
                set 0 0 0 9
                show 0 = 2
                rule 2 0 1 8
                rule 2 0 1 1
                shown 0 = 2
                """);
    }

    private static void theShownVersionCountsNotTheHead() {
        Script.test("promise 21: what was shown is blocked, not the head", """
                add 0 0
                set 0 0 0 8
                show 0 = 2
                set 0 0 0 9
                rule 0 0 1 8
                # the head is blocked
                blocks 3 = 1
                shown 0 = 2
                set 0 0 0 7
                tighten 0 1 7 = 1
                # the head is not, what was shown is
                blocks 4 = 0
                shown 0 = NONE
                show 0 = 4
                shown 0 = 4
                """);
    }

    private static void throwsIndexIfThereIsNoSuchBranch() {
        Script.test("promise 21, \"Throws IndexOutOfBoundsException if there is no such branch\"", """
                shown -1 ! INDEX
                shown 1 ! INDEX
                shown LEAST ! INDEX
                shown MOST ! INDEX
                shown 0 = NONE
                branch 0 = 1
                shown 1 = NONE
                shown 2 ! INDEX
                branch 0
                branch 0
                branch 0
                branch 0 = 5
                shown 5 = NONE
                shown 6 ! INDEX
                show 5 = 0
                shown 5 = 0
                """);
    }
}
