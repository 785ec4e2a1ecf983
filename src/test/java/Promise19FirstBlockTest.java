/** The promise 19: firstBlock. */
public final class Promise19FirstBlockTest {
    /** The deck 2 0 1, the version 6, each slide with a value of its own object 0: 70, 50, 60. */
    private static final String THREE_SLIDES = """
            add 0 0
            add 0 1
            add 0 0
            set 0 0 0 50
            set 0 1 0 60
            set 0 2 0 70
            """;

    public static void main(String[] args) {
        byTheOrderOfTheDeck();
        noneIfItIsNotBlocked();
        breaksThatDoNotBlock();
        theFirstAndTheLastPlaceOfAFullDeck();
        throwsIndexIfThereIsNoSuchVersion();
        Check.end("Promise19FirstBlockTest");
    }

    private static void byTheOrderOfTheDeck() {
        Script.test("promise 19, \"Tells which slide of a version blocks it first: by the order of the deck\"",
                THREE_SLIDES, """
                deck 6 = 2 0 1
                # not the least number, not the rule that was told first
                rule 0 0 1 59
                firstBlock 6 = 2
                firstBlock 5 = 1
                firstBlock 4 = NONE
                rule 0 0 51 999
                firstBlock 6 = 2
                firstBlock 5 = 0
                firstBlock 4 = 0
                drop 0 2
                firstBlock 7 = 0
                drop 0 0
                firstBlock 8 = 1
                # the versions before are as they were
                firstBlock 6 = 2
                firstBlock 7 = 0
                """);
        Script.test("promise 19, \"by the order of the deck\": the last of three", THREE_SLIDES, """
                rule 0 0 61 999
                firstBlock 6 = 0
                tighten 0 71 999 = 0
                firstBlock 6 = 2
                rule 1 0 1 49
                waive 1 0 9
                firstBlock 6 = 2
                """);
    }

    private static void noneIfItIsNotBlocked() {
        Script.test("promise 19, \"NONE if it is not blocked\"", THREE_SLIDES, """
                firstBlock 0 = NONE
                firstBlock 6 = NONE
                rule 0 0 50 70
                firstBlock 6 = NONE
                tighten 0 51 70 = 3
                firstBlock 6 = 0
                set 0 0 0 51
                firstBlock 7 = NONE
                set 0 0 0 0
                firstBlock 8 = NONE
                firstBlock 3 = NONE
                # the slide 0 is an answer too
                firstBlock 4 = 0
                """);
    }

    private static void breaksThatDoNotBlock() {
        Script.test("promise 19: warnings do not block", THREE_SLIDES, """
                rule 2 0 1 1
                firstBlock 6 = NONE
                rule 0 0 1 55
                firstBlock 6 = 2
                rule 2 0 1 1
                firstBlock 4 = NONE
                """);
        Script.test("promise 19: what is waived today does not block", THREE_SLIDES, """
                rule 1 0 1 1
                firstBlock 6 = 2
                waive 0 2 1
                firstBlock 6 = 0
                waive 0 0 0
                firstBlock 6 = 1
                waive 0 1 0
                firstBlock 6 = NONE
                pass 1
                # the last day of the first
                firstBlock 6 = 0
                pass 1
                firstBlock 6 = 2
                """);
    }

    private static void theFirstAndTheLastPlaceOfAFullDeck() {
        Script.test("promise 19: the first and the last place of a full deck", Script.times(8, "add 0 0"), """
                rule 0 3 1 8
                firstBlock 8 = NONE
                set 0 0 3 9
                firstBlock 9 = 0
                set 0 7 3 9
                firstBlock 10 = 7
                drop 0 7
                firstBlock 11 = 0
                drop 0 0
                firstBlock 12 = NONE
                """);
    }

    private static void throwsIndexIfThereIsNoSuchVersion() {
        Script.test("promise 19, \"Throws IndexOutOfBoundsException if there is no such version\"", """
                firstBlock -1 ! INDEX
                firstBlock 0 = NONE
                firstBlock 1 ! INDEX
                firstBlock LEAST ! INDEX
                firstBlock MOST ! INDEX
                add 0 0
                firstBlock 1 = NONE
                firstBlock 2 ! INDEX
                rule 0 0 1 8
                """ + Script.times(38, "set 0 0 0 9") + """
                firstBlock 39 = 0
                firstBlock 40 ! INDEX
                """);
    }
}
