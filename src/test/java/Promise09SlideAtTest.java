/** The promise 9: slideAt. */
public final class Promise09SlideAtTest {
    public static void main(String[] args) {
        returnsWhichSlideIsAtAPlace();
        noneIfThereAreNotSoMany();
        placesOfAFullDeck();
        throwsIndexIfThereIsNoSuchVersion();
        throwsIndexIfPlaceIsBelow0();
        Check.end("Promise09SlideAtTest");
    }

    private static void returnsWhichSlideIsAtAPlace() {
        Script.test("promise 9, \"Returns which slide is at a place\", \"place: from 0\"", """
                add 0 0
                slideAt 1 0 = 0
                add 0 0
                add 0 1
                slideAt 3 0 = 1
                slideAt 3 1 = 2
                slideAt 3 2 = 0
                drop 0 1
                slideAt 4 0 = 2
                slideAt 4 1 = 0
                # the versions before are as they were
                slideAt 3 0 = 1
                slideAt 2 0 = 1
                slideAt 2 1 = 0
                slideAt 1 0 = 0
                """);
    }

    private static void noneIfThereAreNotSoMany() {
        Script.test("promise 9, \"NONE if there are not so many\"", """
                slideAt 0 0 = NONE
                slideAt 0 1 = NONE
                slideAt 0 MOST = NONE
                add 0 0
                slideAt 1 0 = 0
                slideAt 1 1 = NONE
                slideAt 1 8 = NONE
                slideAt 1 MOST = NONE
                add 0 0
                slideAt 2 1 = 0
                slideAt 2 2 = NONE
                drop 0 0
                slideAt 3 0 = 1
                slideAt 3 1 = NONE
                drop 0 1
                slideAt 4 0 = NONE
                """);
    }

    private static void placesOfAFullDeck() {
        Script.test("promise 9: the places of a full deck", Script.times(8, "add 0 0"), """
                slideAt 8 0 = 7
                slideAt 8 6 = 1
                slideAt 8 7 = 0
                slideAt 8 8 = NONE
                slideAt 8 9 = NONE
                slideAt 8 40 = NONE
                slideAt 7 6 = 0
                slideAt 7 7 = NONE
                drop 0 7
                slideAt 9 6 = 0
                slideAt 9 7 = NONE
                """);
    }

    private static void throwsIndexIfThereIsNoSuchVersion() {
        Script.test("promise 9, \"Throws IndexOutOfBoundsException if there is no such version\"", """
                slideAt -1 0 ! INDEX
                slideAt 1 0 ! INDEX
                slideAt LEAST 0 ! INDEX
                slideAt MOST 0 ! INDEX
                # also where any version would answer NONE
                slideAt 1 9 ! INDEX
                slideAt -1 -1 ! INDEX
                add 0 0
                slideAt 1 0 = 0
                slideAt 2 0 ! INDEX
                """ + Script.times(38, "set 0 0 0 1") + """
                slideAt 39 0 = 0
                slideAt 40 0 ! INDEX
                """);
    }

    private static void throwsIndexIfPlaceIsBelow0() {
        Script.test("promise 9, \"Throws IndexOutOfBoundsException if .. place is below 0\"", """
                slideAt 0 -1 ! INDEX
                slideAt 0 LEAST ! INDEX
                slideAt 0 0 = NONE
                add 0 0
                slideAt 1 -1 ! INDEX
                slideAt 1 LEAST ! INDEX
                slideAt 1 0 = 0
                """);
    }
}
