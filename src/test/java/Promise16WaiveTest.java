/** The promise 16: waive. */
public final class Promise16WaiveTest {
    /** The slides 0 (50) and 1 (60), the version 4; a rule of each rank, that both slides break. */
    private static final String RULES_OF_EACH_RANK = """
            add 0 0
            add 0 1
            set 0 0 0 50
            set 0 1 0 60
            rule 0 0 1 49
            rule 1 0 1 49
            rule 2 0 1 49
            """;

    /** The same with two rules of the rank 1 alone. */
    private static final String TWO_RULES = """
            add 0 0
            add 0 1
            set 0 0 0 50
            set 0 1 0 60
            rule 1 0 1 49
            rule 1 0 1 49
            """;

    public static void main(String[] args) {
        waivesARuleForASlide();
        untilADayThatDayWithIt();
        returnsTheNumber();
        inAllVersions();
        moreThanOneForARuleAndASlide();
        throwsIndexIfThereIsNoSuchRule();
        throwsIndexIfThereIsNoSuchSlide();
        throwsArgumentIfUntilIsOutOfRange();
        untilOnTheLastDay();
        throwsStateIfTheRankIsNot1();
        throwsStateIfThereAre12();
        theFirstNamedIsThrown();
        Check.end("Promise16WaiveTest");
    }

    private static void waivesARuleForASlide() {
        Script.test("promise 16, \"Waives a rule\": for that rule and that slide", TWO_RULES, """
                blocks 4 = 4
                firstBlock 4 = 0
                waive 0 0 9 = 0
                blocks 4 = 3
                firstBlock 4 = 0
                waive 1 0 9 = 1
                blocks 4 = 2
                firstBlock 4 = 1
                waive 1 1 9 = 2
                blocks 4 = 1
                waive 0 1 9 = 3
                blocks 4 = 0
                firstBlock 4 = NONE
                show 0 = 4
                """);
        Script.test("promise 16: the ranks 0 and 2 are as they were", RULES_OF_EACH_RANK, """
                blocks 4 = 4
                warnings 4 = 2
                waive 1 0 9
                blocks 4 = 3
                waive 1 1 9
                blocks 4 = 2
                warnings 4 = 2
                """);
    }

    private static void untilADayThatDayWithIt() {
        Script.test("promise 16, \"until a day, that day with it\"", TWO_RULES, """
                waive 0 0 2
                waive 1 1 3
                blocks 4 = 2
                pass 1
                # the day 1
                blocks 4 = 2
                pass 1
                # the day 2
                blocks 4 = 2
                pass 1
                # the day 3
                blocks 4 = 3
                firstBlock 4 = 0
                pass 1
                # the day 4
                blocks 4 = 4
                """);
        Script.test("promise 16, \"until a day, that day with it\": over many days at once", TWO_RULES, """
                waive 0 0 100
                waive 0 1 99
                pass 99
                blocks 4 = 2
                pass 1
                blocks 4 = 3
                pass 100
                blocks 4 = 4
                """);
    }

    private static void returnsTheNumber() {
        Script.test("promise 16, \"Returns the number of the waiver\", \"waivers are numbered from 0\"", TWO_RULES, """
                waive 1 1 5 = 0
                waive 1 1 1000 ! ARGUMENT
                waive 0 0 5 = 1
                pass 1
                # numbered on, also when one ended
                waive 0 0 1 = 2
                pass 5
                waive 0 0 6 = 3
                """);
    }

    private static void inAllVersions() {
        Script.test("promise 16: in all versions that have the slide, and all to come", TWO_RULES, """
                branch 3 = 1
                blocks 3 = 2
                waive 0 0 9
                waive 1 0 9
                blocks 3 = 0
                blocks 4 = 2
                set 1 0 0 70
                blocks 5 = 0
                set 0 0 0 0
                set 0 0 0 51
                blocks 7 = 2
                firstBlock 7 = 1
                # tightened, it is still waived
                tighten 0 1 1 = 0
                blocks 5 = 0
                """);
        Script.test("promise 16: for a slide that no head has any more", TWO_RULES, """
                drop 0 1 = 5
                waive 0 1 9 = 0
                blocks 4 = 3
                blocks 5 = 2
                """);
    }

    private static void moreThanOneForARuleAndASlide() {
        Script.test("promise 16: for the same rule and slide, until the last of both", TWO_RULES, """
                waive 0 0 3
                waive 0 0 1
                blocks 4 = 3
                pass 2
                blocks 4 = 3
                pass 1
                blocks 4 = 3
                pass 1
                blocks 4 = 4
                # and again
                waive 0 0 4
                blocks 4 = 3
                """);
    }

    private static void throwsIndexIfThereIsNoSuchRule() {
        Script.test("promise 16, \"Throws IndexOutOfBoundsException if there is no such rule\"", """
                add 0 0
                waive 0 0 5 ! INDEX
                rule 1 0 1 1
                waive -1 0 5 ! INDEX
                waive 1 0 5 ! INDEX
                waive LEAST 0 5 ! INDEX
                waive MOST 0 5 ! INDEX
                waive 0 0 5 = 0
                """ + Script.times(7, "rule 1 0 1 1") + """
                waive 7 0 5 = 1
                waive 8 0 5 ! INDEX
                """);
    }

    private static void throwsIndexIfThereIsNoSuchSlide() {
        Script.test("promise 16, \"Throws IndexOutOfBoundsException if there is no such .. slide\"", """
                rule 1 0 1 1
                waive 0 0 5 ! INDEX
                add 0 0
                waive 0 -1 5 ! INDEX
                waive 0 1 5 ! INDEX
                waive 0 LEAST 5 ! INDEX
                waive 0 MOST 5 ! INDEX
                waive 0 0 5 = 0
                branch 0 = 1
                add 1 0 = 1
                waive 0 1 5 = 1
                waive 0 2 5 ! INDEX
                """);
        Script.test("promise 16, \"if there is no such .. slide\", with 20", "rule 1 3 1 1\n", Script.times(8, "add 0 0"),
                "branch 0\n", Script.times(8, "add 1 0"), "branch 0\n", Script.times(4, "add 2 0"), """
                set 2 19 3 5
                blocks 21 = 1
                waive 0 20 5 ! INDEX
                waive 0 19 5 = 0
                blocks 21 = 0
                """);
    }

    private static void throwsArgumentIfUntilIsOutOfRange() {
        Script.test("promise 16, \"until: a day, today to 999\", \"Throws IllegalArgumentException if until is out of range\"",
                TWO_RULES, """
                waive 0 0 -1 ! ARGUMENT
                waive 0 0 1000 ! ARGUMENT
                waive 0 0 LEAST ! ARGUMENT
                waive 0 0 MOST ! ARGUMENT
                blocks 4 = 4
                waive 0 0 0 = 0
                blocks 4 = 3
                pass 5
                waive 0 0 4 ! ARGUMENT
                waive 0 0 0 ! ARGUMENT
                blocks 4 = 4
                waive 0 0 5 = 1
                blocks 4 = 3
                waive 0 1 6 = 2
                blocks 4 = 2
                waive 1 0 998 = 3
                waive 1 1 999 = 4
                blocks 4 = 0
                waive 0 0 1000 ! ARGUMENT
                """);
    }

    private static void untilOnTheLastDay() {
        Script.test("promise 16, \"until: a day, today to 999\", on the day 999", TWO_RULES, Script.times(9, "pass 100"), """
                pass 98 = 998
                waive 0 0 997 ! ARGUMENT
                waive 0 0 998 = 0
                waive 0 1 999 = 1
                blocks 4 = 2
                pass 1 = 999
                blocks 4 = 3
                waive 0 0 998 ! ARGUMENT
                waive 0 0 1000 ! ARGUMENT
                waive 0 0 999 = 2
                blocks 4 = 2
                """);
    }

    private static void throwsStateIfTheRankIsNot1() {
        Script.test("promise 16, \"Throws IllegalStateException if the rank of the rule is not 1\"", RULES_OF_EACH_RANK, """
                waive 0 0 5 ! STATE
                waive 2 0 5 ! STATE
                blocks 4 = 4
                warnings 4 = 2
                waive 1 0 5 = 0
                blocks 4 = 3
                waive 0 0 5 ! STATE
                waive 2 1 5 ! STATE
                """);
    }

    private static void throwsStateIfThereAre12() {
        Script.test("promise 16, \"Throws IllegalStateException if .. there are 12\"", TWO_RULES,
                Script.times(10, "waive 0 0 0"), """
                waive 0 1 0 = 10
                # there are 11
                blocks 4 = 2
                waive 1 1 0 = 11
                # there are 12
                blocks 4 = 1
                waive 1 0 0 ! STATE
                waive 0 0 999 ! STATE
                blocks 4 = 1
                pass 1
                # those that ended are numbered too
                blocks 4 = 4
                waive 0 0 1 ! STATE
                """);
    }

    private static void theFirstNamedIsThrown() {
        Script.test("promise 16: no such rule or slide, and until is out of range", RULES_OF_EACH_RANK, """
                waive 3 0 1000 ! INDEX
                waive -1 0 -1 ! INDEX
                waive 1 2 1000 ! INDEX
                waive 1 -1 -1 ! INDEX
                waive 1 0 1000 ! ARGUMENT
                """);
        Script.test("promise 16: and the rank of the rule is not 1", RULES_OF_EACH_RANK, """
                waive 0 2 5 ! INDEX
                waive 2 -1 5 ! INDEX
                waive 0 2 1000 ! INDEX
                waive 0 0 1000 ! ARGUMENT
                waive 2 0 -1 ! ARGUMENT
                waive 2 0 5 ! STATE
                """);
        Script.test("promise 16: what is thrown with 12 waivers", RULES_OF_EACH_RANK, Script.times(12, "waive 1 0 5"), """
                waive 3 0 5 ! INDEX
                waive 1 2 5 ! INDEX
                waive 1 0 1000 ! ARGUMENT
                waive 1 0 -1 ! ARGUMENT
                waive 0 0 5 ! STATE
                waive 1 0 5 ! STATE
                """);
    }
}
