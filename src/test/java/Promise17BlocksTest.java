/** The promise 17: blocks. */
public final class Promise17BlocksTest {
    public static void main(String[] args) {
        valueAtLeastAndAtMost();
        ifItIsNot0();
        onceForEachSlide();
        onceForEachRule();
        theRank0();
        theRank1WithoutAWaiverToday();
        theRank2IsNone();
        ofThatVersion();
        eightRulesAndEightSlides();
        throwsIndexIfThereIsNoSuchVersion();
        Check.end("Promise17BlocksTest");
    }

    private static void valueAtLeastAndAtMost() {
        for (int object = 0; object < 4; object++) {
            Script.test("promise 17, \"has to be at least and at most something\", the object " + object, """
                    add 0 0
                    rule 0 OBJECT 10 20
                    set 0 0 OBJECT 9
                    blocks 2 = 1
                    set 0 0 OBJECT 10
                    blocks 3 = 0
                    set 0 0 OBJECT 11
                    blocks 4 = 0
                    set 0 0 OBJECT 19
                    blocks 5 = 0
                    set 0 0 OBJECT 20
                    blocks 6 = 0
                    set 0 0 OBJECT 21
                    blocks 7 = 1
                    set 0 0 OBJECT 999
                    blocks 8 = 1
                    set 0 0 OBJECT 1
                    blocks 9 = 1
                    """.replace("OBJECT", String.valueOf(object)));
        }
        Script.test("promise 17, \"has to be at least and at most something\": just one value, and all", """
                add 0 0
                rule 0 0 500 500
                rule 0 0 1 999
                set 0 0 0 499
                blocks 2 = 1
                set 0 0 0 500
                blocks 3 = 0
                set 0 0 0 501
                blocks 4 = 1
                set 0 0 0 1
                blocks 5 = 1
                set 0 0 0 999
                blocks 6 = 1
                """);
    }

    private static void ifItIsNot0() {
        Script.test("promise 17, \"its value, if it is not 0\"", """
                rule 0 0 5 9
                rule 1 1 999 999
                add 0 0
                blocks 1 = 0
                set 0 0 0 1
                blocks 2 = 1
                set 0 0 0 0
                blocks 3 = 0
                set 0 0 1 998
                blocks 4 = 1
                set 0 0 1 0
                blocks 5 = 0
                """);
    }

    private static void onceForEachSlide() {
        Script.test("promise 17, \"A version breaks a rule once for each of its slides whose object does not keep to it\"", """
                add 0 0
                add 0 0
                add 0 0
                rule 0 2 1 9
                blocks 3 = 0
                set 0 2 2 10
                blocks 4 = 1
                set 0 0 2 10
                blocks 5 = 2
                set 0 1 2 10
                blocks 6 = 3
                # other objects are none of its
                set 0 1 1 10
                set 0 1 3 10
                blocks 8 = 3
                drop 0 1
                blocks 9 = 2
                add 0 2
                blocks 10 = 2
                blocks 6 = 3
                """);
    }

    private static void onceForEachRule() {
        Script.test("promise 17, \"It is blocked by each such break\": of each rule", """
                add 0 0
                set 0 0 0 50
                blocks 2 = 0
                rule 0 0 1 49
                blocks 2 = 1
                rule 0 0 51 999
                blocks 2 = 2
                rule 1 0 1 49
                blocks 2 = 3
                rule 0 0 50 50
                blocks 2 = 3
                rule 0 1 1 1
                blocks 2 = 3
                set 0 0 1 2
                blocks 3 = 4
                """);
    }

    private static void theRank0() {
        Script.test("promise 17, \"blocked by each such break of a rule of the rank 0\": without regard to waivers", """
                add 0 0
                set 0 0 0 5
                rule 0 0 1 4
                rule 1 0 1 4
                blocks 2 = 2
                waive 1 0 9
                blocks 2 = 1
                """);
    }

    private static void theRank1WithoutAWaiverToday() {
        Script.test("promise 17, \"and of the rank 1 for which there is no waiver today\"", """
                add 0 0
                add 0 0
                set 0 0 0 5
                set 0 1 0 5
                rule 1 0 1 4
                rule 1 0 1 4
                blocks 4 = 4
                waive 0 0 1
                blocks 4 = 3
                waive 1 0 0
                blocks 4 = 2
                waive 1 1 2
                blocks 4 = 1
                waive 0 1 2
                blocks 4 = 0
                pass 1
                # one ended
                blocks 4 = 1
                pass 1
                # and another one
                blocks 4 = 2
                pass 1
                blocks 4 = 4
                """);
    }

    private static void theRank2IsNone() {
        Script.test("promise 17, \"breaks of the rank 2 are warnings\"", """
                add 0 0
                set 0 0 0 5
                rule 2 0 1 4
                blocks 2 = 0
                rule 2 0 6 6
                blocks 2 = 0
                rule 0 0 1 4
                blocks 2 = 1
                """);
    }

    private static void ofThatVersion() {
        Script.test("promise 17, \"Counts by what a version is blocked\": each version, of any branch", """
                add 0 0
                branch 1 = 1
                set 0 0 0 5
                set 1 0 0 6
                set 0 0 1 6
                rule 0 0 1 4
                rule 0 1 1 5
                blocks 0 = 0
                blocks 1 = 0
                blocks 2 = 1
                blocks 3 = 1
                blocks 4 = 2
                # also what was dropped since
                drop 0 0
                blocks 4 = 2
                blocks 5 = 0
                """);
    }

    private static void eightRulesAndEightSlides() {
        StringBuilder sets = new StringBuilder();
        for (int slide = 0; slide < 8; slide++) {
            sets.append("set 0 ").append(slide).append(" 3 5\n");
        }
        Script.test("promise 17: all of eight rules by all of eight slides", Script.times(8, "add 0 0"), sets.toString(),
                Script.times(7, "rule 0 3 6 6"), """
                blocks 16 = 56
                rule 1 3 1 4 = 7
                blocks 16 = 64
                blocks 15 = 56
                blocks 9 = 8
                waive 7 7 0
                blocks 16 = 63
                """);
        Script.test("promise 17: the last slide of a full deck", Script.times(8, "add 0 0"), """
                set 0 0 3 9
                rule 0 3 1 8
                blocks 9 = 1
                drop 0 0
                blocks 10 = 0
                """);
    }

    private static void throwsIndexIfThereIsNoSuchVersion() {
        Script.test("promise 17, \"Throws IndexOutOfBoundsException if there is no such version\"", """
                blocks -1 ! INDEX
                blocks 0 = 0
                blocks 1 ! INDEX
                blocks LEAST ! INDEX
                blocks MOST ! INDEX
                add 0 0
                blocks 1 = 0
                blocks 2 ! INDEX
                rule 0 0 1 8
                """ + Script.times(38, "set 0 0 0 9") + """
                blocks 39 = 1
                blocks 40 ! INDEX
                """);
    }
}
