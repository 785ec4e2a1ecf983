/** The promise 6: head. */
public final class Promise06HeadTest {
    public static void main(String[] args) {
        returnsTheHead();
        isTheVersionThatAnEditMade();
        staysWithOtherCalls();
        throwsIndexIfThereIsNoSuchBranch();
        throwsIndexBehindTheSixth();
        Check.end("Promise06HeadTest");
    }

    private static void returnsTheHead() {
        Script.test("promise 6, \"Returns the head of a branch\": each branch its own", """
                head 0 = 0
                branch 0 = 1
                head 1 = 0
                add 1 0
                head 1 = 1
                head 0 = 0
                add 0 0
                head 0 = 2
                head 1 = 1
                branch 2 = 2
                head 2 = 2
                add 2 1
                head 2 = 3
                head 0 = 2
                """);
    }

    private static void isTheVersionThatAnEditMade() {
        Script.test("promise 6, \"and that is the head then\": of each kind of edit", """
                add 0 0
                head 0 = 1
                set 0 0 0 5
                head 0 = 2
                branch 1 = 1
                set 1 0 1 6
                head 1 = 3
                merge 0 1 NONE = 4
                head 0 = 4
                head 1 = 3
                drop 0 0 = 5
                head 0 = 5
                head 1 = 3
                """);
        Script.test("promise 6, \"and that is the head then\": up to the last version", """
                add 0 0
                """ + Script.times(37, "set 0 0 0 1") + """
                head 0 = 38
                set 0 0 0 1
                head 0 = 39
                set 0 0 0 1 ! STATE
                head 0 = 39
                """);
    }

    private static void staysWithOtherCalls() {
        Script.test("promise 6: the head stays, where no edit was made", """
                add 0 0
                branch 1 = 1
                head 0 = 1
                base 0 1 = 1
                clashes 0 1 = 0
                merged 0 1 0 0 OURS = 0
                rule 1 0 1 1 = 0
                tighten 0 1 1 = 0
                waive 0 0 0 = 0
                show 0 = 1
                shown 0 = 1
                pass 1 = 1
                head 0 = 1
                head 1 = 1
                set 0 0 0 1000 ! ARGUMENT
                drop 0 1 ! INDEX
                add 0 2 ! INDEX
                merge 0 0 OURS ! ARGUMENT
                head 0 = 1
                """);
    }

    private static void throwsIndexIfThereIsNoSuchBranch() {
        Script.test("promise 6, \"Throws IndexOutOfBoundsException if there is no such branch\"", """
                head -1 ! INDEX
                head 0 = 0
                head 1 ! INDEX
                head LEAST ! INDEX
                head MOST ! INDEX
                branch 0 = 1
                head 1 = 0
                head 2 ! INDEX
                """);
    }

    private static void throwsIndexBehindTheSixth() {
        Script.test("promise 6, \"if there is no such branch\", with 6", Script.times(5, "branch 0"), """
                head 5 = 0
                head 6 ! INDEX
                head -1 ! INDEX
                add 5 0
                head 5 = 1
                head 4 = 0
                """);
    }
}
