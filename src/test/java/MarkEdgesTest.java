/** The edges of MARKS and of THE LOGBOOK (parts 3 and 4; promises 18, 19, 30, 45). */
public final class MarkEdgesTest {
    private MarkEdgesTest() {
    }

    public static void main(String[] args) {
        byHand();
        missing();
        reversed();
        strange();
        delay();
        oneBehindTheOther();
        offInTheFirstSecond();
        secondsWithItOn();
        off();
        marksThatThereAre();
        logbookEmptyAndFull();
        logbookLines();
        logThatThereIs();
        Check.finish();
    }

    private static void byHand() {
        Run.of("COVER (0), MAGNET (1) is ON, or off: true; false if it is so already, or there is none such",
            "mark(0, false) 0; mark(1, false) 0; look(9) 0; mark(0, true) 1; mark(0, true) 0; look(8) 1; look(9) 1",
            "marked(0, 1) 1",
            "mark(1, true) 1; mark(1, true) 0; look(8) 3; mark(0, false) 1; mark(0, false) 0; look(8) 2",
            "marked(0, 1) 1; mark(0, true) 1",
            "marked(0, 1) 2; look(9) 4; marked(0, 3) 0; marked(1, 3) 0; again(5); marked(0, 2) 5; marked(1, 2) 5",
            "marked(0, 3) 0");
        Run.of("2 to 4 not by hand", "mark(2, true) 0; mark(3, true) 0; mark(4, true) 0; mark(2, false) 0",
            "mark(5, true) 0; mark(-1, true) 0",
            "mark(MAX, false) 0; mark(MIN, false) 0; look(8) 0; look(9) 0");
        Run.of("DELAY is not for these", "set(3, 60); mark(0, true); again(1); marked(0, 0) 1; marked(0, 2) 1",
            "block(5) 1");
    }

    // n 4: UU is 400 just as LOW is 100; 399 is 19, 6, 1, 1.
    private static final String JUST = "samples(20, 0, 20, 0, 0, 0, 0, 0, 0, 0, 0, 0, 0, 0, 0, 0)";
    private static final String LESS = "samples(20, 0, 19, 0, 0, 0, 6, 0, 0, 0, 1, 0, 0, 0, 1, 0)";
    private static final String OTHER = "samples(19, 0, 20, 0, 6, 0, 0, 0, 1, 0, 0, 0, 1, 0, 0, 0)";
    private static final String BOTH = "samples(19, 0, 19, 0, 6, 0, 6, 0, 1, 0, 1, 0, 1, 0, 1, 0)";

    private static void missing() {
        Run.of("UU of a PHASE is less than n times LOW, of another one not", "phases(2, 4); set(3, 0)",
            JUST, "marked(2, 3) 0; marked(2, 0) 0",
            LESS, "period(1, 2) 399; marked(2, 3) 1; marked(2, 0) 1; log(0, 1) 2", BOTH, "marked(2, 3) 0",
            "marked(2, 0) 0; log(0, 1) 12",
            OTHER, "marked(2, 0) 1; marked(2, 1) 2; set(2, 99); again(1); marked(2, 0) 0; set(2, 101); again(1)",
            "marked(2, 0) 0",
            "set(2, 100); again(1); marked(2, 0) 1");
        Run.of("LOW 0: none is less", "phases(2, 4); set(3, 0); set(2, 0)", OTHER, "marked(2, 3) 0",
            "samples(0, 0, 500, 0, 0, 0, 500, 0)",
            "samples(0, 0, 500, 0, 0, 0, 500, 0); marked(2, 3) 0; set(2, 1); again(1); marked(2, 3) 1");
        Run.of("LOW 250000: only the greatest is not less", "phases(2, 4); set(3, 0); set(2, 250000)",
            "samples(500, 0, -500, 0, 500, 0, 500, 0, -500, 0, 500, 0, 500, 0, 499, 0); period(0, 2) 1000000",
            "period(1, 2) 999001",
            "marked(2, 0) 1; samples(500, 0, 500, 0, 500, 0, 500, 0, 500, 0, 500, 0, 500, 0, 500, 0); marked(2, 0) 0");
        Run.of("one PHASE alone is never MISSING", "phases(1, 4); set(3, 0); set(2, 250000); power(1, 1, 1)",
            "marked(2, 3) 0; look(8) 0");
        Run.of("n times LOW, n 16", "phases(2, 16); set(3, 0)",
            "samples(40, 0, 39, 0)").go(zeros(30)).go("marked(2, 0) 1; period(0, 2) 1600",
            "set(2, 101); again(1); marked(2, 0) 0; set(2, 95); again(1); marked(2, 0) 0; set(2, 96); again(1)",
            "marked(2, 0) 1");
        Run.of("of three PHASES", "phases(3, 4); set(3, 0)",
            "samples(20, 0, 20, 0, 0, 0, 0, 0, 0, 0, 0, 0, 0, 0, 0, 0, 0, 0, 0, 0, 0, 0, 0, 0)",
            "marked(2, 0) 1; samples(0, 0, 20, 0, 0, 0, 0, 0, 0, 0, 0, 0, 0, 0, 0, 0, 0, 0, 0, 0, 0, 0, 0, 0)",
            "marked(2, 0) 1; marked(2, 1) 1");
    }

    private static String zeros(int samples) {
        return "samples(0, 0" + ", 0, 0".repeat(samples - 1) + ")";
    }

    // ACTIVE of two PHASES, u 100 in both, n 4.
    private static String active(int a, int b) {
        return "samples(100, " + a + ", 100, " + b + ", 0, 0, 0, 0, 0, 0, 0, 0, 0, 0, 0, 0)";
    }

    private static void reversed() {
        Run.of("ACTIVE of a PHASE is below 0, of another one above", "phases(2, 4); set(3, 0)",
            active(1, 1), "marked(3, 3) 0", active(-1, 0),
            "marked(3, 3) 0", active(0, 1), "marked(3, 3) 0", active(-1, -1), "marked(3, 3) 0",
            active(0, 0), "marked(3, 3) 0", active(-1, 1),
            "marked(3, 3) 1; marked(3, 0) 1; log(0, 1) 3", active(500, -500), "marked(3, 3) 2; marked(3, 1) 1",
            active(1, 0), "marked(3, 0) 0",
            "log(0, 1) 13; marked(3, 3) 0");
        Run.of("of three PHASES", "phases(3, 4); set(3, 0)",
            "samples(1, -1, 1, 0, 1, 1, 0, 0, 0, 0, 0, 0, 0, 0, 0, 0, 0, 0, 0, 0, 0, 0, 0, 0)",
            "marked(3, 0) 1; samples(1, -1, 1, 0, 1, -1, 0, 0, 0, 0, 0, 0, 0, 0, 0, 0, 0, 0, 0, 0, 0, 0, 0, 0)",
            "marked(3, 0) 0");
    }

    private static void strange() {
        Run.of("II of a PHASE is above 0, UU 0", "phases(1, 4); set(3, 0); power(0, 0, 0); marked(4, 3) 0",
            "power(0, 1, 0); marked(4, 3) 1",
            "marked(4, 0) 1; log(0, 1) 4; power(0, -1, 0); marked(4, 3) 2; power(1, 1, 0); marked(4, 3) 0",
            "log(0, 1) 14; power(-1, 0, 0)",
            "marked(4, 3) 0; power(0, 0, 1); marked(4, 0) 1; marked(4, 1) 2");
        for (int phase = 0; phase < 3; phase++) {
            String[] u = {"1, 1", "1, 1", "1, 1"};
            u[phase] = "0, 0";
            Run.of("II 0: not STRANGE, whatever the others are", "phases(3, 4); set(3, 0)",
            "samples(" + String.join(", ", u) + ")").go(zeros(9))
                .go("marked(4, 3) 0; look(5) 1");
            u[phase] = "0, 1";
            Run.of("STRANGE in each PHASE", "phases(3, 4); set(3, 0); samples(" + String.join(", ",
            u) + ")").go(zeros(9)).go("marked(4, 0) 1");
        }
        Run.of("of one PHASE, both", "phases(2, 4); set(3, 0); samples(0, 0, 1, 1)").go(zeros(6)).go("marked(4, 3) 0",
            "samples(0, 1, 1, 0)")
            .go(zeros(6)).go("marked(4, 0) 1; samples(1, 0, 0, 1)").go(zeros(6)).go("marked(4, 0) 1; marked(4, 3) 2",
            "marked(4, 1) 1");
    }

    private static void delay() {
        for (int delay : new int[] {0, 1, 2, 3, 59, 60}) {
            Run run = Run.of("for more than DELAY SECONDS", "phases(1, 4); set(3, " + delay + ") 1; power(0, 1, 0)");
            if (delay > 0) {
                run.go("marked(4, 0) 0; marked(4, 3) 1; look(9) 0");
            }
            for (int k = 2; k <= delay; k++) {
                run.go("again(1); marked(4, 0) 0; marked(4, 3) " + k);
            }
            if (delay > 0) {
                run.go("again(1)");
            }
            run.go("marked(4, 0) 1; marked(4, 1) 1; marked(4, 2) 1; marked(4, 3) " + (delay + 1), "log(0, 1) 4",
            "log(0, 0) " + delay);
            run.go("again(10); marked(4, 2) 11; marked(4, 3) " + (delay + 11) + "; look(9) 1; marked(4, 1) 1");
        }
        Run.of("DELAY 3 at first", "phases(1, 4); power(0, 1, 0); again(2); look(8) 0; again(1); look(8) 16",
            "log(0, 0) 3");
        Run.of("DELAY told meanwhile: by the next SECOND", "phases(1, 4); set(3, 10); power(0, 1, 0); again(4)",
            "set(3, 2)",
            "marked(4, 0) 0; marked(4, 3) 5; again(10); marked(4, 0) 1; marked(4, 2) 10; marked(4, 3) 15; look(5) 15",
            "log(0, 0) 5; look(0) 15; set(3, 60); again(1); marked(4, 0) 1; marked(4, 2) 11; look(9) 1");
        Run.of("DELAY told just so", "phases(1, 4); set(3, 10); power(0, 1, 0); again(4); set(3, 5); again(1)",
            "marked(4, 0) 1; log(0, 0) 5; power(1, 1, 0); set(3, 10); power(0, 1, 0); again(4); set(3, 6); again(1)",
            "marked(4, 0) 0; again(1); marked(4, 0) 1; marked(4, 3) 7");
        Run.of("all in one call", "phases(1, 4); set(3, 60); power(0, 1, 0); again(59); look(8) 0; would(1, 4) 16",
            "again(900); marked(4, 2) 900");
    }

    private static void oneBehindTheOther() {
        Run.of("SECONDS one behind the other", "phases(1, 4); set(3, 2); power(0, 1, 0); again(1); marked(4, 3) 2",
            "power(1, 1, 0); marked(4, 3) 0",
            "power(0, 1, 0); again(1); marked(4, 0) 0; marked(4, 3) 2; again(1); marked(4, 0) 1; power(1, 0, 0)",
            "marked(4, 0) 0; look(9) 2",
            "power(0, 1, 0); marked(4, 0) 0; again(1); marked(4, 0) 0; again(1); marked(4, 1) 2");
        Run.of("a clock that is moved does not come between", "phases(1, 4); set(3, 2); power(0, 1, 0); again(1)",
            "move(5000); again(1)",
            "marked(4, 0) 1; marked(4, 3) 3; log(0, 0) 5000; move(0); marked(4, 0) 1");
        Run.of("phases() does not come between either", "phases(1, 4); set(3, 1); power(0, 1, 0); phases(1, 8)",
            "marked(4, 3) 1; again(1)",
            "marked(4, 3) 0");
    }

    // SECONDS that come in one call: the first of them turns it, and THE LOGBOOK has that one's TIME.
    private static void offInTheFirstSecond() {
        Run.of("off as it is not so", "phases(1, 4); set(3, 0); power(0, 1, 0); again(4); phases(1, 4)",
            "marked(4, 0) 1; again(10); marked(4, 0) 0; log(0, 1) 14",
            "log(0, 0) 5; marked(4, 2) 5; block(5) 16");
        Run.of("LOW told: off in the next SECOND", "phases(2, 4); set(3, 0)", LESS, "again(9); marked(2, 2) 10",
            "set(2, 99); marked(2, 0) 1; again(10); log(0, 1) 12",
            "log(0, 0) 10; marked(2, 2) 10; marked(2, 3) 0");
        Run.of("a MARK's line has no number", "phases(1, 4); set(3, 0); power(0, 1, 0); log(0, 1) 4; log(0, 2) 0",
            "power(1, 1, 0); log(0, 1) 14; log(0, 2) 0",
            "mark(0, true); log(0, 2) 0; mark(0, false); log(0, 2) 0");
    }

    private static void secondsWithItOn() {
        Run.of("Each SECOND that is METERED with it ON (then) counts", "phases(1, 4); set(3, 1); power(0, 1, 0)",
            "marked(4, 2) 0; again(1)",
            "marked(4, 2) 1; again(1); marked(4, 2) 2; power(1, 1, 0); marked(4, 2) 2; marked(4, 0) 0; again(5)",
            "marked(4, 2) 2",
            "power(0, 1, 0); again(1); marked(4, 2) 3; off(10); marked(4, 2) 3; marked(4, 0) 0");
        Run.of("by hand too, but not OFF", "mark(0, true); off(7); marked(0, 2) 0; again(3); marked(0, 2) 3",
            "mark(0, false); again(1)",
            "marked(0, 2) 3");
    }

    private static void off() {
        Run.of("MARKS 2 to 4 begin anew at once: they are off; THE LOGBOOK has 21 first",
            "phases(2, 4); set(3, 0); samples(20, 1, 0, -1, 0, 0, 0, 0, 0, 0, 0, 0, 0, 0, 0, 0); look(8) 20",
            "mark(0, true); mark(1, true)",
            "look(9) 4; off(5) 6; look(8) 3; look(9) 7; log(2, 1) 21; log(2, 2) 5; log(2, 0) 1; log(1, 1) 12",
            "log(1, 0) 1; log(1, 2) 0",
            "log(0, 1) 14; log(0, 0) 1; marked(2, 3) 0; marked(4, 3) 0; marked(2, 1) 1; block(5) 55; off(1) 7",
            "look(9) 8; log(0, 1) 21");
        Run.of("one that is not ON yet begins anew without a line", "phases(1, 4); set(3, 2); power(0, 1, 0)",
            "again(1); off(1); look(9) 1",
            "marked(4, 3) 0; again(2); marked(4, 0) 0; again(1); marked(4, 0) 1; log(0, 0) 5");
        Run.of("REVERSED too", "phases(2, 4); set(3, 0)", active(1, -1), "look(8) 8; off(1); log(0, 1) 13",
            "log(1, 1) 21; look(8) 0; marked(3, 3) 0");
        Run.of("OFF that can't be: they stay", "phases(1, 4); set(3, 0); power(0, 1, 0); off(0) NONE",
            "off(100001) NONE; look(8) 16; look(9) 1");
    }

    private static void marksThatThereAre() {
        Run run = Run.of("NONE if there is none such, or another what");
        for (int mark = 0; mark <= 4; mark++) {
            for (int what = 0; what <= 3; what++) {
                run.go("marked(" + mark + ", " + what + ") 0");
            }
            run.go("marked(" + mark + ", 4) NONE; marked(" + mark + ", -1) NONE; marked(" + mark + ", MAX) NONE");
        }
        run.go("marked(5, 0) NONE; marked(-1, 0) NONE; marked(MAX, 0) NONE; marked(MIN, 3) NONE; marked(5, 4) NONE");
    }

    private static void logbookEmptyAndFull() {
        Run run = Run.of("THE LOGBOOK (the latest 40)", "look(9) 0; log(0, 0) NONE; log(0, 1) NONE; log(0, 2) NONE");
        for (int k = 1; k <= 42; k++) {
            run.go("move(" + 10 * k + "); look(9) " + k + "; log(0, 0) " + 10 * k + "; log(0, 2) " + 10 * (k - 1));
            int oldest = Math.min(k, 40) - 1;
            run.go("log(" + oldest + ", 0) " + 10 * (k - oldest) + "; log(" + (oldest + 1) + ", 0) NONE");
        }
        for (int i = 0; i < 40; i++) {
            run.go("log(" + i + ", 0) " + 10 * (42 - i) + "; log(" + i + ", 1) 20; log(" + i + ", 2) " + 10 * (41 - i));
        }
    }

    private static void logbookLines() {
        Run.of("20 the clock moved: the TIME ahead", "again(5); move(100) 5; log(0, 0) 100; log(0, 1) 20; log(0, 2) 5",
            "move(100) 100; log(0, 2) 100",
            "move(0) 100; log(0, 0) 0; log(0, 2) 100; look(9) 3; move(LAST) 0; move(0) LAST; log(0, 2) LAST");
        Run.of("21 OFF: SECONDS", "again(3); off(100000) 100003; log(0, 0) 3; log(0, 1) 21; log(0, 2) 100000; off(1)",
            "log(0, 0) 100003; log(0, 2) 1");
        Run.of("24 BILL", "again(3); bill() 1; log(0, 0) 3; log(0, 1) 24; log(0, 2) 0");
        Run.of("30 SEALED, 31 opened, 32 a wrong one, 33 LOCKED (after 32)", "again(3); seal(5); log(0, 0) 3",
            "log(0, 1) 30; log(0, 2) 0; open(5)",
            "log(0, 1) 31; log(0, 2) 0; log(0, 0) 3; seal(5); open(1); log(0, 1) 32; log(0, 2) 1; open(1)",
            "log(0, 1) 32; log(0, 2) 2; open(1)",
            "log(0, 1) 33; log(0, 2) 0; log(1, 1) 32; log(1, 2) 3; log(2, 1) 32; log(2, 2) 2; look(9) 7");
        Run.of("0 .. 4 MARK on, 10 .. 14 off, at one TIME in turn",
            "phases(2, 4); set(3, 0); samples(20, 1, 0, -1, 0, 0, 0, 0, 0, 0, 0, 0, 0, 0, 0, 0); log(1, 1) 2",
            "log(0, 1) 4; log(0, 0) 0; log(1, 0) 0",
            active(1, -1), "log(2, 1) 12; log(1, 1) 3; log(0, 1) 14; look(9) 5; log(0, 0) 1; log(2, 0) 1");
        Run.of("the SWITCH, then MARKS", "phases(1, 4); set(3, 0); set(1, 1); set(10, 1); pay(5); prepaid(true)",
            "power(0, 1, 0); log(0, 1) 4",
            "power(1, 5, 0); log(1, 1) 22; log(0, 1) 14; log(1, 0) 1; log(0, 0) 1");
    }

    private static void logThatThereIs() {
        Run.of("NONE if there is none such, or another what", "bill(); log(0, 1) 24; log(1, 1) NONE; log(-1, 1) NONE",
            "log(0, 3) NONE; log(0, -1) NONE",
            "log(40, 0) NONE; log(MAX, 0) NONE; log(MIN, 0) NONE; log(0, MAX) NONE; log(0, MIN) NONE");
    }
}
