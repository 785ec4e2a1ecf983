/** The promise 14: rule. */
public final class Promise14RuleTest {
    public static void main(String[] args) {
        tellsARule();
        returnsItsNumber();
        rankZeroToTwo();
        objectZeroToThree();
        leastOneTo999();
        mostLeastTo999();
        throwsStateIfThereAre8();
        theFirstNamedIsThrown();
        Check.end("Promise14RuleTest");
    }

    private static void tellsARule() {
        Script.test("promise 14, \"Tells a rule\": it counts at once, for all versions", """
                add 0 0
                set 0 0 1 50
                set 0 0 1 60
                show 0 = 3
                blocks 2 = 0
                rule 0 1 1 49 = 0
                blocks 1 = 0
                blocks 2 = 1
                blocks 3 = 1
                shown 0 = NONE
                rule 2 1 51 999 = 1
                warnings 2 = 1
                warnings 3 = 0
                # a rule makes no version
                head 0 = 3
                about 4 0 ! INDEX
                """);
    }

    private static void returnsItsNumber() {
        Script.test("promise 14, \"Returns its number\", \"Rules are numbered from 0\"", """
                rule 2 3 5 6 = 0
                rule 0 0 0 1 ! ARGUMENT
                rule 0 0 1 1 = 1
                rule 1 0 1 1 = 2
                # the same once more is another one
                rule 0 0 1 1 = 3
                add 0 0
                set 0 0 0 2
                blocks 2 = 3
                """);
    }

    private static void rankZeroToTwo() {
        Script.test("promise 14, \"rank: 0 to 2\", \"Throws IndexOutOfBoundsException if there is no such rank\"", """
                add 0 0
                set 0 0 0 9
                rule -1 0 1 8 ! INDEX
                rule 3 0 1 8 ! INDEX
                rule LEAST 0 1 8 ! INDEX
                rule MOST 0 1 8 ! INDEX
                blocks 2 = 0
                warnings 2 = 0
                rule 0 0 1 8 = 0
                blocks 2 = 1
                rule 1 0 1 8 = 1
                blocks 2 = 2
                warnings 2 = 0
                rule 2 0 1 8 = 2
                blocks 2 = 2
                warnings 2 = 1
                # the rank 1 alone is waived
                waive 0 0 9 ! STATE
                waive 1 0 9 = 0
                waive 2 0 9 ! STATE
                """);
    }

    private static void objectZeroToThree() {
        Script.test("promise 14, \"object: 0 to 3\", \"no such .. object\"", """
                add 0 0
                set 0 0 0 10
                set 0 0 1 20
                set 0 0 2 30
                set 0 0 3 40
                rule 0 -1 1 1 ! INDEX
                rule 0 4 1 1 ! INDEX
                rule 0 LEAST 1 1 ! INDEX
                rule 0 MOST 1 1 ! INDEX
                rule 0 0 10 10 = 0
                rule 0 1 20 20 = 1
                rule 0 2 30 30 = 2
                rule 0 3 40 40 = 3
                blocks 5 = 0
                set 0 0 3 41
                blocks 6 = 1
                set 0 0 2 31
                blocks 7 = 2
                set 0 0 1 21
                blocks 8 = 3
                set 0 0 0 11
                blocks 9 = 4
                """);
    }

    private static void leastOneTo999() {
        Script.test("promise 14, \"least: 1 to 999\", \"Throws IllegalArgumentException if least .. is out of range\"", """
                rule 0 0 0 999 ! ARGUMENT
                rule 0 0 -1 999 ! ARGUMENT
                rule 0 0 LEAST 999 ! ARGUMENT
                rule 0 0 1000 1000 ! ARGUMENT
                rule 0 0 1000 999 ! ARGUMENT
                rule 0 0 MOST MOST ! ARGUMENT
                rule 0 0 0 0 ! ARGUMENT
                rule 0 0 1 999 = 0
                rule 0 0 2 999 = 1
                rule 0 0 998 999 = 2
                rule 0 0 999 999 = 3
                """);
    }

    private static void mostLeastTo999() {
        Script.test("promise 14, \"most: least to 999\", \"or most is out of range\"", """
                rule 0 0 1 0 ! ARGUMENT
                rule 0 0 1 1000 ! ARGUMENT
                rule 0 0 500 499 ! ARGUMENT
                rule 0 0 500 1000 ! ARGUMENT
                rule 0 0 999 998 ! ARGUMENT
                rule 0 0 999 1000 ! ARGUMENT
                rule 0 0 1 LEAST ! ARGUMENT
                rule 0 0 1 MOST ! ARGUMENT
                rule 0 0 1 1 = 0
                rule 0 0 500 500 = 1
                rule 0 0 500 501 = 2
                rule 0 0 500 998 = 3
                rule 0 0 500 999 = 4
                rule 0 0 999 999 = 5
                """);
    }

    private static void throwsStateIfThereAre8() {
        Script.test("promise 14, \"Throws IllegalStateException if there are 8\"", """
                add 0 0
                set 0 0 0 9
                rule 0 0 1 8 = 0
                rule 0 0 1 8 = 1
                rule 0 0 1 8 = 2
                rule 0 0 1 8 = 3
                rule 0 0 1 8 = 4
                rule 0 0 1 8 = 5
                rule 0 0 1 8 = 6
                # there are 7
                tighten 7 1 1 ! INDEX
                rule 0 0 1 8 = 7
                # there are 8
                rule 0 0 1 8 ! STATE
                rule 2 3 1 999 ! STATE
                rule 1 3 999 999 ! STATE
                blocks 2 = 8
                warnings 2 = 0
                tighten 7 1 1 = 0
                tighten 8 1 1 ! INDEX
                """);
    }

    private static void theFirstNamedIsThrown() {
        Script.test("promise 14: no such rank or object, and least or most is out of range", """
                rule 3 0 0 1 ! INDEX
                rule -1 0 1 1000 ! INDEX
                rule 0 4 2 1 ! INDEX
                rule 0 -1 0 0 ! INDEX
                rule 0 0 0 0 ! ARGUMENT
                """);
        Script.test("promise 14: what is thrown with 8 rules", Script.times(8, "rule 0 0 1 1"), """
                rule 3 0 1 1 ! INDEX
                rule 0 4 1 1 ! INDEX
                rule 3 0 0 1 ! INDEX
                rule 0 0 0 1 ! ARGUMENT
                rule 0 0 2 1 ! ARGUMENT
                rule 0 0 1 1000 ! ARGUMENT
                rule 0 0 1 1 ! STATE
                """);
    }
}
