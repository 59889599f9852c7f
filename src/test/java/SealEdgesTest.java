/** The edges of SEALED, LOCKED, REFUSED (part 4; promises 12, 13, 48). */
public final class SealEdgesTest {
    private SealEdgesTest() {
    }

    public static void main(String[] args) {
        codes();
        sealedAlready();
        refusedCounts();
        whatIsNotSealed();
        wrongOnes();
        locked();
        lockedAgain();
        lockedAtTheLastTime();
        lockedInTheImage();
        Check.finish();
    }

    private static void codes() {
        for (int code : new int[] {0, 1, 9998, 9999}) {
            Run.of("with a code 0 .. 9999", "look(53) 0; seal(" + code + ") 1; look(53) 1; open(" + (code + 1) + ") 0",
            "open(" + (code - 1) + ") 0",
                "look(53) 1; look(54) 2; open(" + code + ") 1; look(53) 0; look(54) 0");
        }
        Run.of("false if the code can't be", "seal(-1) 0; seal(10000) 0; seal(MAX) 0; seal(MIN) 0; look(53) 0",
            "look(9) 0; set(0, 1) 1; look(56) 0");
    }

    private static void sealedAlready() {
        Run.of("false if it is already", "seal(5) 1; seal(5) 0; seal(6) 0; seal(-1) 0; look(9) 1; look(56) 0",
            "open(6) 0; open(5) 1; seal(6) 1; open(5) 0",
            "open(6) 1");
        Run.of("false if it is not SEALED", "open(0) 0; open(5) 0; open(-1) 0; look(54) 0; look(9) 0; look(55) 0",
            "seal(5); open(5) 1; open(5) 0; open(1) 0",
            "open(1) 0; open(1) 0; look(54) 0; look(55) 0; look(9) 2");
    }

    private static void refusedCounts() {
        Run.of("each such call counts as REFUSED", "set(99, 0) 0; phases(0, 0) 0; table(8, 0, 0) NONE; wipe(8) NONE",
            "move(-1) NONE; look(56) 0; seal(5)",
            "set(0, 1) 0; look(56) 1; phases(1, 8) 0; look(56) 2; table(0, 0, 0) NONE; look(56) 3; wipe(0) NONE",
            "look(56) 4; season(1, 0) 0; look(56) 5",
            "week(0, 0, 0) 0; look(56) 6; special(0, 0) 0; look(56) 7; move(0) NONE; look(56) 8; calendar() NONE",
            "look(56) 9",
            "set(99, 0) 0; phases(0, 0) 0; table(8, 0, 0) NONE; wipe(8) NONE; season(9, 0) 0; week(9, 0, 0) 0",
            "special(0, 9) 0; move(-1) NONE; look(56) 17",
            "look(9) 1; open(5) 1; look(56) 17; set(0, 1) 1; phases(1, 4) 1; look(56) 17; seal(5); move(0) NONE",
            "look(56) 18");
    }

    private static void whatIsNotSealed() {
        Run.of("the other calls can be", "phases(1, 4); seal(5); power(1, 5, 0); again(1) 0; off(1) 3",
            "mark(0, true) 1; prepaid(true) 1; pay(5) 5; bill() 1",
            "feed(0, 0, 0, 0, 0) 20; end(5) 1; image(true) 1; image(false) 1; would(1, 6) 4; look(57) 5; look(56) 0",
            "raw(0, 0) 10; look(53) 1");
    }

    private static void wrongOnes() {
        Run.of("a wrong one: WRONG is one more (0 as it is opened)", "seal(5); open(4) 0; look(54) 1; open(6) 0",
            "look(54) 2; look(55) 0; open(5) 1; look(54) 0",
            "seal(7); look(54) 0; open(5) 0; open(5) 0; look(54) 2; look(55) 0; open(7) 1; look(54) 0");
        Run.of("a code that can't be is a wrong one", "seal(5); open(-1) 0; look(54) 1; open(10000) 0; look(54) 2",
            "open(MAX) 0; look(54) 0; look(55) 300");
        Run.of("REFUSED calls and seal() are no wrong ones", "seal(5); open(1); set(0, 1); seal(1); open(1)",
            "look(54) 2; look(55) 0; open(5) 1");
    }

    private static void locked() {
        Run.of("is it the third: LOCKED for 300 SECONDS of TIME", "again(10); seal(5); open(1); open(1); look(55) 0",
            "open(1); look(55) 300; look(54) 0; look(53) 1",
            "log(0, 1) 33; log(0, 0) 10; log(1, 2) 3; look(9) 5; open(5) 0; open(1) 0; look(54) 0; look(9) 5",
            "again(1); look(55) 299; off(298); look(55) 1",
            "open(5) 0; open(1) 0; look(54) 0; look(9) 6; again(1); look(55) 0; look(0) 310; open(1) 0; look(54) 1",
            "open(5) 1; look(9) 8; look(54) 0");
        Run.of("opened just behind it", "seal(5); open(1); open(1); open(1); again(299); open(5) 0; again(1)",
            "open(5) 1; look(55) 0; look(53) 0");
        Run.of("it stays SEALED behind it", "seal(5); open(1); open(1); open(1); off(300); look(53) 1; set(0, 1) 0",
            "look(56) 1; off(1000); look(55) 0; open(5) 1");
    }

    private static void lockedAgain() {
        Run.of("three more lock it again", "seal(5); open(1); open(1); open(1); off(300); open(1); open(1)",
            "look(54) 2; look(55) 0; open(1); look(55) 300; look(54) 0",
            "off(299); open(5) 0; off(1); open(5) 1");
        Run.of("a lock that is over is not found again", "seal(5); open(1); open(1); open(1); off(300); open(5) 1",
            "move(0) 300; look(55) 0; seal(6) 1; look(55) 0; open(6) 1");
    }

    private static void lockedAtTheLastTime() {
        Run.of("SECONDS of TIME: TIME stays, it stays LOCKED", "move(LAST-100); seal(5); open(1); open(1); open(1)",
            "look(55) 300; again(100); look(55) 200; again(900)",
            "look(0) LAST; look(55) 200; open(5) 0; look(54) 0");
    }

    private static void lockedInTheImage() {
        Run.of("all that is, as it was", "seal(5); open(1); open(1); image(true); open(1); look(55) 300; image(false)",
            "look(55) 0; look(54) 2; open(5) 1; look(53) 0",
            "image(false); look(53) 1; look(54) 2; open(1); image(true); off(300); look(55) 0; image(false)",
            "look(55) 300; open(5) 0; look(0) 0");
        Run.of("REFUSED as it was", "seal(5); set(0, 1); image(true); set(0, 1); look(56) 2; image(false); look(56) 1");
    }
}
