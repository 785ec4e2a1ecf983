/** The promise 8: value. */
public final class Promise08ValueTest {
    public static void main(String[] args) {
        returnsTheValueOfAnObject();
        ofEachVersion();
        noneIfTheVersionDoesNotHaveTheSlide();
        throwsIndexIfThereIsNoSuchVersion();
        throwsIndexIfThereIsNoSuchSlide();
        throwsIndexBehindTheTwentiethSlide();
        throwsIndexIfThereIsNoSuchObject();
        Check.end("Promise08ValueTest");
    }

    private static void returnsTheValueOfAnObject() {
        Script.test("promise 8, \"Returns the value of an object\": 0 to 999, 0 if it is not there", """
                add 0 0
                value 1 0 0 = 0
                value 1 0 3 = 0
                set 0 0 0 1
                set 0 0 1 20
                set 0 0 2 998
                set 0 0 3 999
                value 5 0 0 = 1
                value 5 0 1 = 20
                value 5 0 2 = 998
                value 5 0 3 = 999
                set 0 0 3 0
                value 6 0 3 = 0
                value 6 0 2 = 998
                """);
        Script.test("promise 8: the first and the last slide of a full deck", Script.times(8, "add 0 0"), """
                set 0 7 0 70
                set 0 0 3 3
                value 10 7 0 = 70
                value 10 6 0 = 0
                value 10 1 3 = 0
                value 10 0 3 = 3
                """);
    }

    private static void ofEachVersion() {
        Script.test("promise 8: each version has its values, also the last of forty", """
                add 0 0
                set 0 0 1 5
                set 0 0 1 6
                branch 2 = 1
                """ + Script.times(35, "set 0 0 1 8") + """
                set 0 0 1 9
                value 1 0 1 = 0
                value 2 0 1 = 5
                value 3 0 1 = 6
                value 38 0 1 = 8
                value 39 0 1 = 9
                """);
    }

    private static void noneIfTheVersionDoesNotHaveTheSlide() {
        Script.test("promise 8, \"NONE if the version does not have the slide\"", """
                add 0 0
                value 0 0 0 = NONE
                value 1 0 0 = 0
                branch 0 = 1
                add 1 0 = 1
                # a slide of another branch
                value 1 1 0 = NONE
                value 2 0 0 = NONE
                value 2 1 0 = 0
                set 0 0 0 5
                drop 0 0 = 4
                # before it was dropped, and behind that
                value 3 0 0 = 5
                value 4 0 0 = NONE
                value 4 0 3 = NONE
                """);
    }

    private static void throwsIndexIfThereIsNoSuchVersion() {
        Script.test("promise 8, \"Throws IndexOutOfBoundsException if there is no such version\"", """
                add 0 0
                value -1 0 0 ! INDEX
                value 0 0 0 = NONE
                value 1 0 0 = 0
                value 2 0 0 ! INDEX
                value LEAST 0 0 ! INDEX
                value MOST 0 0 ! INDEX
                """ + Script.times(38, "set 0 0 0 9") + """
                value 39 0 0 = 9
                value 40 0 0 ! INDEX
                """);
    }

    private static void throwsIndexIfThereIsNoSuchSlide() {
        Script.test("promise 8, \"Throws IndexOutOfBoundsException if there is no such .. slide\"", """
                value 0 0 0 ! INDEX
                add 0 0
                value 1 -1 0 ! INDEX
                value 1 0 0 = 0
                value 1 1 0 ! INDEX
                value 1 LEAST 0 ! INDEX
                value 1 MOST 0 ! INDEX
                branch 0 = 1
                add 1 0 = 1
                value 1 1 0 = NONE
                value 1 2 0 ! INDEX
                drop 1 1
                # one that was dropped everywhere is still one
                value 3 1 0 = NONE
                value 3 2 0 ! INDEX
                """);
    }

    private static void throwsIndexBehindTheTwentiethSlide() {
        Script.test("promise 8, \"if there is no such .. slide\", with 20", Script.times(8, "add 0 0"), "branch 0\n",
                Script.times(8, "add 1 0"), "branch 0\n", Script.times(4, "add 2 0"), """
                value 20 19 0 = 0
                value 20 20 0 ! INDEX
                value 8 19 3 = NONE
                value 8 20 3 ! INDEX
                value 20 -1 0 ! INDEX
                """);
    }

    private static void throwsIndexIfThereIsNoSuchObject() {
        Script.test("promise 8, \"object: 0 to 3\", \"no such .. object\"", """
                add 0 0
                add 0 1
                set 0 0 0 10
                set 0 0 3 40
                set 0 1 0 50
                value 5 0 -1 ! INDEX
                value 5 0 0 = 10
                value 5 0 3 = 40
                value 5 0 4 ! INDEX
                value 5 1 -1 ! INDEX
                value 5 1 4 ! INDEX
                value 5 0 LEAST ! INDEX
                value 5 0 MOST ! INDEX
                # also where the version does not have the slide
                value 0 0 4 ! INDEX
                value 0 0 -1 ! INDEX
                value 0 0 3 = NONE
                """);
    }
}
