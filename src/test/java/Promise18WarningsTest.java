/** The promise 18: warnings. */
public final class Promise18WarningsTest {
    public static void main(String[] args) {
        valueAtLeastAndAtMost();
        ifItIsNot0();
        breaksOfTheRank2NoOthers();
        onceForEachSlideAndRule();
        eightRulesAndEightSlides();
        throwsIndexIfThereIsNoSuchVersion();
        Check.end("Promise18WarningsTest");
    }

    private static void valueAtLeastAndAtMost() {
        for (int object = 0; object < 4; object++) {
            Script.test("promise 18, \"has to be at least and at most something\", the object " + object, """
                    add 0 0
                    rule 2 OBJECT 10 20
                    set 0 0 OBJECT 9
                    warnings 2 = 1
                    set 0 0 OBJECT 10
                    warnings 3 = 0
                    set 0 0 OBJECT 20
                    warnings 4 = 0
                    set 0 0 OBJECT 21
                    warnings 5 = 1
                    tighten 0 11 19
                    warnings 3 = 1
                    warnings 4 = 1
                    """.replace("OBJECT", String.valueOf(object)));
        }
    }

    private static void ifItIsNot0() {
        Script.test("promise 18, \"its value, if it is not 0\"", """
                rule 2 0 5 9
                add 0 0
                warnings 1 = 0
                set 0 0 0 1
                warnings 2 = 1
                set 0 0 0 0
                warnings 3 = 0
                """);
    }

    private static void breaksOfTheRank2NoOthers() {
        Script.test("promise 18, \"breaks of the rank 2 are warnings, no others\"", """
                add 0 0
                set 0 0 0 5
                warnings 2 = 0
                rule 0 0 1 4
                warnings 2 = 0
                rule 1 0 1 4
                warnings 2 = 0
                # nor is one that is waived
                waive 1 0 9
                warnings 2 = 0
                blocks 2 = 1
                rule 2 0 1 4
                warnings 2 = 1
                blocks 2 = 1
                """);
        Script.test("promise 18: the first rule too", """
                add 0 0
                set 0 0 0 5
                rule 2 0 1 4 = 0
                warnings 2 = 1
                blocks 2 = 0
                """);
    }

    private static void onceForEachSlideAndRule() {
        Script.test("promise 18, \"Counts the warnings of a version\": once for each slide and rule", """
                add 0 0
                add 0 0
                set 0 0 1 5
                rule 2 1 1 4
                warnings 2 = 0
                warnings 3 = 1
                set 0 1 1 6
                warnings 4 = 2
                rule 2 1 6 6
                warnings 3 = 2
                warnings 4 = 3
                rule 2 2 1 1
                warnings 4 = 3
                drop 0 1
                warnings 5 = 2
                warnings 4 = 3
                warnings 0 = 0
                """);
    }

    private static void eightRulesAndEightSlides() {
        StringBuilder sets = new StringBuilder();
        for (int slide = 0; slide < 8; slide++) {
            sets.append("set 0 ").append(slide).append(" 3 5\n");
        }
        Script.test("promise 18: all of eight rules by all of eight slides", Script.times(8, "add 0 0"), sets.toString(),
                Script.times(7, "rule 2 3 6 6"), """
                warnings 16 = 56
                rule 2 3 1 4 = 7
                warnings 16 = 64
                warnings 15 = 56
                blocks 16 = 0
                """);
        Script.test("promise 18: the last slide of a full deck", Script.times(8, "add 0 0"), """
                set 0 0 3 9
                rule 2 3 1 8
                warnings 9 = 1
                drop 0 0
                warnings 10 = 0
                """);
    }

    private static void throwsIndexIfThereIsNoSuchVersion() {
        Script.test("promise 18, \"Throws IndexOutOfBoundsException if there is no such version\"", """
                warnings -1 ! INDEX
                warnings 0 = 0
                warnings 1 ! INDEX
                warnings LEAST ! INDEX
                warnings MOST ! INDEX
                add 0 0
                warnings 1 = 0
                warnings 2 ! INDEX
                rule 2 0 1 8
                """ + Script.times(38, "set 0 0 0 9") + """
                warnings 39 = 1
                warnings 40 ! INDEX
                """);
    }
}
