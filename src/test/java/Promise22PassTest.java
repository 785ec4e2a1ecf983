/** The promise 22: pass. */
public final class Promise22PassTest {
    public static void main(String[] args) {
        letsDaysGoBy();
        daysOneTo100();
        throwsStateIfItWouldBeAbove999();
        throwsStateJustAbove999ByManyDays();
        theFirstNamedIsThrown();
        waiversEndByIt();
        Check.end("Promise22PassTest");
    }

    private static void letsDaysGoBy() {
        Script.test("promise 22, \"Lets days go by\", \"Returns the day then\"", """
                pass 1 = 1
                pass 1 = 2
                pass 50 = 52
                pass 100 = 152
                pass 99 = 251
                # nothing else
                head 0 = 0
                about 1 0 ! INDEX
                shown 0 = NONE
                """);
    }

    private static void daysOneTo100() {
        Script.test("promise 22, \"days: 1 to 100\", \"Throws IllegalArgumentException if days is out of range\"", """
                pass 0 ! ARGUMENT
                pass -1 ! ARGUMENT
                pass 101 ! ARGUMENT
                pass LEAST ! ARGUMENT
                pass MOST ! ARGUMENT
                pass 1 = 1
                pass 2 = 3
                pass 99 = 102
                pass 100 = 202
                pass 101 ! ARGUMENT
                pass 0 ! ARGUMENT
                pass 1 = 203
                """);
    }

    private static void throwsStateIfItWouldBeAbove999() {
        Script.test("promise 22, \"Throws IllegalStateException if it would be above 999\"", Script.times(9, "pass 100"), """
                pass 97 = 997
                pass 3 ! STATE
                pass 100 ! STATE
                pass 1 = 998
                pass 2 ! STATE
                pass 1 = 999
                pass 1 ! STATE
                pass 100 ! STATE
                # it is still the day 999
                add 0 0
                rule 1 0 1 1
                waive 0 0 998 ! ARGUMENT
                waive 0 0 999 = 0
                """);
    }

    private static void throwsStateJustAbove999ByManyDays() {
        Script.test("promise 22, \"if it would be above 999\": by 100, and by 99", Script.times(9, "pass 100"), """
                pass 100 ! STATE
                pass 99 = 999
                pass 1 ! STATE
                """);
        Script.test("promise 22, \"if it would be above 999\": by 100 from the day 899", Script.times(8, "pass 100"), """
                pass 99 = 899
                pass 100 = 999
                pass 99 ! STATE
                """);
    }

    private static void theFirstNamedIsThrown() {
        Script.test("promise 22: days is out of range, and it would be above 999", Script.times(9, "pass 100"), """
                pass 101 ! ARGUMENT
                pass MOST ! ARGUMENT
                pass 99 = 999
                pass 101 ! ARGUMENT
                pass 0 ! ARGUMENT
                pass -1 ! ARGUMENT
                pass LEAST ! ARGUMENT
                pass 1 ! STATE
                """);
    }

    private static void waiversEndByIt() {
        Script.test("promise 22: what a waiver ends by, and only as many days as told", """
                add 0 0
                set 0 0 0 9
                rule 1 0 1 8
                waive 0 0 10
                pass 9 = 9
                blocks 2 = 0
                pass 0 ! ARGUMENT
                pass 101 ! ARGUMENT
                pass 1 = 10
                blocks 2 = 0
                pass 1 = 11
                blocks 2 = 1
                """);
    }
}
