/** The edges of part 3, a SECOND that is METERED: what is told, CREEP, REGISTERS, CREDIT, the SWITCH, TIME
 * (promises 4, 5, 20, 21, 24, 25, 41, 48). */
public final class MeteringEdgesTest {
    private MeteringEdgesTest() {
    }

    public static void main(String[] args) {
        toldAtFirst();
        toldInBounds();
        oneAtATime();
        blocksThatCanBe();
        whatsThatThereAre();
        unit();
        creep();
        creepAtTheGreatestStart();
        registers();
        tariffsOfRegisters();
        readings();
        credit();
        pay();
        switchOpens();
        switchOpenMeters();
        lasts();
        lastTime();
        registersThatThereAre();
        Check.finish();
    }

    private static void toldAtFirst() {
        Run.of("Told at first", "look(20) 0; look(21) 1000; look(22) 100; look(23) 3; look(24) 900; look(25) 3",
            "look(30) 0",
            "look(31) 0; look(32) 0; look(33) 0; look(50) 0; look(51) 40; look(52) 0");
    }

    private static void toldInBounds() {
        int[][] bounds = {{0, 0, 1000000, 20}, {1, 1, 1000000, 21}, {2, 0, 250000, 22}, {3, 0, 60, 23}, {5, 1, 6, 25},
            {10, 0, 100, 30}, {11, 0, 100, 31}, {12, 0, 100, 32}, {13, 0, 100, 33}, {20, 0, 100, 50}, {21, 0, 200, 51},
            {22, 0, 100, 52}};
        for (int[] b : bounds) {
            String set = "set(" + b[0] + ", ";
            String look = "look(" + b[3] + ") ";
            Run.of("the last that can be and the first that can't", set + b[1] + ") 1",
            look + b[1], set + (b[1] - 1) + ") 0",
                look + b[1], set + "MIN) 0", look + b[1], set + b[2] + ") 1", look + b[2], set + (b[2] + 1) + ") 0",
            look + b[2],
                set + "MAX) 0", look + b[2], set + (b[1] + 1) + ") 1", look + (b[1] + 1), set + (b[2] - 1) + ") 1",
            look + (b[2] - 1));
        }
    }

    private static void oneAtATime() {
        int[][] told = {{0, 11, 20}, {1, 12, 21}, {2, 13, 22}, {3, 14, 23}, {4, 300, 24}, {5, 6, 25}, {10, 15, 30}, {11, 16, 31},
            {12, 17, 32}, {13, 18, 33}, {20, 19, 50}, {21, 20, 51}, {22, 21, 52}};
        Run run = Run.of("each is told alone");
        for (int[] t : told) {
            run.go("set(" + t[0] + ", " + t[1] + ") 1");
        }
        for (int[] t : told) {
            run.go("look(" + t[2] + ") " + t[1]);
        }
    }

    private static void blocksThatCanBe() {
        Run run = Run.of("BLOCK 60, 300, 900, 1800, 3600");
        for (int block : new int[] {60, 300, 900, 1800, 3600}) {
            run.go("set(4, " + block + ") 1; look(24) " + block + "; set(4, " + (block - 1) + ") 0",
            "set(4, " + (block + 1) + ") 0");
            run.go("set(4, " + -block + ") 0; set(4, " + block * 10 + ") 0; look(24) " + block);
        }
        run.go("set(4, 0) 0; set(4, 1) 0; set(4, 120) 0; set(4, 2700) 0; set(4, MAX) 0; set(4, MIN) 0; look(24) 3600");
    }

    private static void whatsThatThereAre() {
        Run run = Run.of("false for another what");
        for (int what = -3; what < 40; what++) {
            boolean is = what >= 0 && what <= 5 || what >= 10 && what <= 13 || what >= 20 && what <= 22;
            run.go("set(" + what + ", " + (what == 4 ? 60 : 1) + ") " + (is ? 1 : 0));
        }
        run.go("set(MAX, 1) 0; set(MIN, 1) 0");
    }

    private static void unit() {
        Run.of("UNIT while no SECOND was METERED", "set(1, 5) 1; off(10); bill(); mark(0, true); sample(1, 1)",
            "move(100)",
            "set(1, 6) 1; look(21) 6; again(1); set(1, 7) 0; set(1, 6) 0; set(1, 1000000) 0; look(21) 6; set(0, 1) 1",
            "move(0)",
            "set(1, 7) 0; bill(); set(1, 7) 0; phases(1, 4); set(1, 7) 0");
        Run.of("a SECOND of CREEP was METERED too", "set(0, 1); again(1); look(6) 1; set(1, 5) 0");
        Run.of("a SECOND with the SWITCH open was METERED too", "prepaid(true); again(1); set(1, 5) 0");
        Run.of("a whole PERIOD METERS", "phases(1, 4); samples(1, 1, 1, 1, 1, 1); set(1, 5) 1; sample(1, 1) 0",
            "set(1, 6) 0; look(21) 5");
        Run.of("gone back to where none was", "image(true); again(1); set(1, 5) 0; image(false); set(1, 5) 1",
            "look(21) 5");
        Run.of("in thought none was", "would(900, 0) 0; lasts() NONE; set(1, 5) 1");
    }

    private static void creep() {
        Run.of("Are P, Q, without sign, less than START both", "phases(1, 4); set(0, 1000)",
            "power(3, 333, 333); look(6) 1; raw(0, 0) 0; raw(2, 0) 0; raw(6, 0) 0; look(5) 1; block(0) 0; block(2) 0",
            "block(3) 1",
            "power(3, -333, -333); look(6) 2; raw(1, 0) 0; raw(4, 0) 0; raw(6, 0) 0; block(1) 0",
            "power(2, 500, 0); look(6) 2; raw(0, 0) 1000; raw(6, 0) 1000; power(2, -500, 0); look(6) 2; raw(1, 0) 1000",
            "power(2, 0, 500); look(6) 2; raw(2, 0) 1000; power(2, 0, -500); look(6) 2; raw(5, 0) 1000; raw(6, 0) 4000",
            "power(1, 499, -499); look(6) 3; look(5) 7; look(0) 7");
        Run.of("START 0: nothing is less", "phases(1, 4); power(1, 0, 0); again(5); look(6) 0; look(5) 6");
        Run.of("START 1: P, Q 0 are less", "phases(1, 4); set(0, 1); power(1, 0, 0); look(6) 1; power(1, 1, 0)",
            "look(6) 1; raw(0, 0) 1",
            "power(1, 0, -1); look(6) 1; raw(5, 0) 1; power(1, -1, 0); look(6) 1; raw(1, 0) 1");
        Run.of("of all PHASES together", "phases(2, 4); set(0, 10)",
            "samples(1, 9, 1, -9, 0, 9, 0, -9, 0, 0, 0, 0, 0, 0, 0, 0)",
            "look(6) 1; samples(1, 9, 1, 1, 0, 0, 0, 0, 0, 0, 0, 0, 0, 0, 0, 0); look(6) 1; raw(0, 0) 10");
        Run.of("CREEP takes no CREDIT, and is no LINE's RAW", "phases(1, 4); set(1, 1); set(10, 1); set(0, 6)",
            "power(1, 5, 5)",
            "again(9); look(2) 0; look(6) 10; set(0, 5); again(1); look(2) -5; look(6) 10");
    }

    // n 8: ACTIVE 999999 and REACTIVE 500000, then ACTIVE 1000000.
    private static void creepAtTheGreatestStart() {
        Run.of("START 1000000", "set(0, 1000000)",
            "samples(500, 500, 500, 500, 500, 500, 500, 499, 499, 1, 0, 0, 0, 0, 0, 0)",
            "period(0, 0) 999999; period(0, 1) 500000; look(6) 1; raw(0, 0) 0",
            "samples(500, 500, 500, 500, 500, 500, 500, 500, 0, 0, 0, 0, 0, 0, 0, 0); period(0, 0) 1000000; look(6) 1",
            "raw(0, 0) 1000000");
    }

    private static void registers() {
        Run.of("P to IMPORT if it is above 0, without sign to EXPORT if below", "phases(1, 4); power(1, 1, 0)",
            "raw(0, 0) 1",
            "raw(1, 0) 0; power(1, -1, 0); raw(0, 0) 1; raw(1, 0) 1; power(1, 0, 0); raw(0, 0) 1; raw(1, 0) 1",
            "raw(6, 0) 2",
            "power(1, 0, 5); raw(0, 0) 1; raw(1, 0) 1; raw(2, 0) 5; raw(6, 0) 7");
        Run.of("Q without sign to that of its QUADRANT", "phases(1, 4); power(1, 2, 3); power(1, -2, 4)",
            "power(1, -2, -5)",
            "power(1, 2, -6); raw(2, 0) 3; raw(3, 0) 4; raw(4, 0) 5; raw(5, 0) 6; raw(0, 0) 4; raw(1, 0) 4",
            "raw(6, 0) 18");
        Run.of("never fall", "phases(1, 4); power(100, 5, 0); power(100, -9, 0); raw(0, 0) 500; raw(1, 0) 900",
            "again(3); raw(0, 0) 500");
    }

    private static void tariffsOfRegisters() {
        Run.of("each by TARIFF, as it is at that TIME, and TOTAL", "phases(1, 4); table(0, 1, 1); table(0, 2, 2)",
            "table(0, 3, 3)",
            "power(1, 7, 5); raw(0, 0) 7; raw(0, 1) 0; again(1); raw(0, 1) 7; raw(0, 2) 0; again(1); raw(0, 2) 7",
            "raw(0, 3) 0",
            "again(2); raw(0, 3) 14; raw(0, NONE) 35; raw(2, 0) 5; raw(2, 3) 10; raw(2, NONE) 25; raw(6, 1) 8",
            "raw(6, NONE) 40",
            "move(86399); again(1); raw(0, 3) 21; raw(0, 0) 7; again(1); raw(0, 0) 14; raw(0, 1) 7; again(1)",
            "raw(0, 1) 14");
        Run.of("again over a SWITCH", "phases(1, 4); table(0, 10, 1); table(0, 20, 0); power(1, 1, 0); again(29)",
            "raw(0, 0) 20; raw(0, 1) 10");
    }

    private static void readings() {
        Run.of("RAW by UNIT (downwards)", "phases(1, 4); set(1, 7); power(1, 6, 0); reading(0, 0) 0; power(1, 1, 0)",
            "reading(0, 0) 1",
            "power(1, 6, 0); reading(0, 0) 1; raw(0, 0) 13; power(1, 1, 0); reading(0, 0) 2; reading(0, NONE) 2",
            "reading(6, 0) 2");
        Run.of("UNIT 1", "phases(1, 4); set(1, 1); power(1, 6, -3); reading(0, 0) 6; reading(5, 0) 3; reading(6, 0) 6",
            "again(1) 12");
        Run.of("UNIT 1000000", "phases(1, 4); set(1, 1000000); power(500, 500, 0); again(2) 0; reading(0, 0) 0",
            "raw(0, 0) 750000; again(1) 1",
            "reading(0, 0) 1; again(3) 1; again(1) 2");
        Run.of("READING TOTAL is of RAW TOTAL", "phases(1, 4); table(0, 1, 1); set(1, 10); power(1, 5, 0); again(1) 1",
            "reading(0, 0) 0",
            "reading(0, 1) 0; reading(0, NONE) 1");
    }

    private static void credit() {
        Run.of("For each READING by which IMPORT of the TARIFF goes up", "phases(1, 4); set(1, 10); set(10, 3)",
            "power(1, 9, 0); look(2) 0",
            "power(1, 1, 0); look(2) -3; power(1, 9, 0); look(2) -3; power(1, 25, 0); look(2) -12; raw(0, 0) 44",
            "power(1, 6, 0); look(2) -15");
        Run.of("of the TARIFF, not of TOTAL", "phases(1, 4); set(1, 10); set(10, 3); set(11, 5); table(0, 1, 1)",
            "power(1, 6, 0)",
            "again(1) 1; look(2) 0; again(1) 1; look(2) -5; again(1) 2; look(2) -5; again(1) 3; look(2) -10");
        Run.of("EXPORT, REACTIVE, APPARENT take none", "phases(1, 4); set(1, 1); set(10, 100); power(1, -5, 0)",
            "power(1, 0, 5); look(2) 0");
        Run.of("PRICE 0; PRICE 100", "phases(1, 4); set(1, 1); power(1, 500, 0); look(2) 0; set(10, 100); again(1)",
            "look(2) -50000");
        Run.of("PREPAID or not", "phases(1, 4); set(1, 1); set(10, 1); pay(100); power(1, 5, 0); look(2) 95",
            "prepaid(true); again(1)",
            "look(2) 90; prepaid(false); again(1); look(2) 85");
    }

    private static void pay() {
        Run.of("CREDIT comes (0 .. 1000000000)", "pay(0) 0; pay(1) 1; pay(-1) NO; look(2) 1",
            "pay(1000000000) 1000000001",
            "pay(1000000001) NO; look(2) 1000000001; pay(1000000000) 2000000001; pay(1000000000) 3000000001",
            "look(2) 3000000001",
            "pay(MAX) NO; pay(MIN) NO");
        Run.of("CREDIT below 0", "phases(1, 4); set(1, 1); set(10, 100); power(1, 500, 0); look(2) -50000",
            "pay(0) -50000; pay(50001) 1");
    }

    private static void switchOpens() {
        Run.of("open just as long as the meter is PREPAID and CREDIT is 0 or less", "look(4) 0; prepaid(false) 0",
            "look(9) 0; prepaid(true) 1",
            "look(3) 1; look(4) 1; log(0, 1) 22; log(0, 2) 0; look(9) 1; prepaid(true) 0; look(9) 1; pay(0) 0",
            "look(4) 1; look(9) 1",
            "pay(1) 1; look(4) 0; log(0, 1) 23; log(0, 2) 0; look(9) 2; pay(5) 6; look(9) 2; prepaid(false) 1",
            "look(3) 0; look(9) 2",
            "prepaid(false) 0; prepaid(true) 1; look(4) 0; look(9) 2");
        Run.of("CREDIT just 0 behind a SECOND", "phases(1, 4); set(1, 1); set(10, 1); pay(10); prepaid(true)",
            "power(1, 5, 0); look(4) 0",
            "look(2) 5; again(1) 10; look(2) 0; look(4) 1; log(0, 1) 22; log(0, 0) 1; look(0) 2; again(1) 10",
            "look(9) 1; look(2) 0");
        Run.of("CREDIT 1 is not gone", "phases(1, 4); set(1, 1); set(10, 1); pay(11); prepaid(true); power(1, 5, 0)",
            "again(1); look(2) 1",
            "look(4) 0; again(1); look(2) -4; look(4) 1; log(0, 0) 2; prepaid(false) 1; look(4) 0; log(0, 1) 23",
            "log(0, 0) 3",
            "prepaid(true) 1; look(4) 1; pay(4) 0; look(4) 1; pay(1) 1; look(4) 0; look(9) 4");
        Run.of("in the midst of a call", "phases(1, 4); set(1, 10); set(10, 2); pay(7); prepaid(true); power(1, 3, 0)",
            "again(100) 4; look(4) 1; look(2) -1; raw(0, 0) 42; log(0, 1) 22; log(0, 0) 13; look(0) 101; look(5) 101",
            "block(0) 42; pay(2) 1; again(100) 5; raw(0, 0) 51; look(2) -1; log(0, 0) 103; look(9) 3");
        Run.of("at the SECOND a TARIFF begins", "phases(1, 4); set(1, 1); set(11, 1); table(0, 10, 1); pay(1)",
            "prepaid(true); power(1, 1, 0); lasts() 10; again(100) 11; log(0, 0) 10; look(2) 0; raw(0, 1) 1");
        Run.of("without PREPAID it never opens", "phases(1, 4); set(1, 1); set(10, 1); power(1, 5, 0); again(9)",
            "look(2) -50; look(4) 0; look(9) 0");
    }

    private static void switchOpenMeters() {
        Run.of("with the SWITCH open u, i count as they are, but P, Q, S are 0", "phases(1, 4); prepaid(true)",
            "power(3, 5, 4); look(4) 1",
            "period(0, 0) 15; period(0, 1) 12; period(0, 2) 9; period(0, 3) 41; raw(0, 0) 0; raw(2, 0) 0; raw(6, 0) 0",
            "look(5) 1; look(0) 1",
            "block(0) 0; block(2) 0; block(3) 1; look(6) 0; set(0, 1); again(2); look(6) 2; pay(1); again(1)",
            "look(6) 2; raw(0, 0) 15",
            "raw(2, 0) 12; raw(6, 0) 19; block(0) 15; block(3) 4");
    }

    private static void lasts() {
        Run.of("LASTS (0: it is open). NONE if not by then", "phases(1, 4); lasts() NONE; prepaid(true); lasts() 0",
            "pay(1); lasts() NONE",
            "set(1, 1); set(10, 1); power(1, 1, 0); look(4) 1; lasts() 0; pay(1); lasts() 1; pay(3599); lasts() 3600",
            "pay(1); lasts() NONE",
            "look(2) 3601; look(0) 1; prepaid(false); lasts() NONE; prepaid(true); set(10, 0); lasts() NONE",
            "set(10, 100); lasts() 37");
        Run.of("with EXPORT it lasts", "phases(1, 4); set(1, 1); set(10, 1); pay(1); prepaid(true); power(1, -1, 0)",
            "lasts() NONE");
        Run.of("in CREEP it lasts", "phases(1, 4); set(1, 1); set(10, 1); set(0, 6); pay(1); prepaid(true)",
            "power(1, 5, 5); lasts() NONE",
            "set(0, 5); lasts() 1");
        Run.of("TIME stays: it goes on all the same", "phases(1, 4); set(1, 1); set(10, 1); pay(3601); prepaid(true)",
            "power(1, 1, 0)",
            "move(LAST-1); lasts() 3600; move(LAST); lasts() 3600; pay(1); lasts() NONE");
    }

    private static void lastTime() {
        Run.of("then TIME is one more (2000000000: it stays)", "phases(1, 4); move(LAST-2); power(1, 5, 0)",
            "look(0) LAST-1; again(1)",
            "look(0) LAST; again(1); look(0) LAST; power(1, 5, 0); look(0) LAST; again(900); look(0) LAST",
            "look(5) 904; raw(0, 0) 4520",
            "block(3) 904; block(0) 4520; look(10) 0; would(900, 6) LAST; mark(0, true); log(0, 0) LAST; off(1) NONE",
            "move(LAST) LAST",
            "load(0, 0) LAST; load(0, 4) 904; load(0, 5) 192; move(0) LAST; look(0) 0; look(10) 1");
        Run.of("what is METERED at the last TIME has its TARIFF", "phases(1, 4); table(0, 12800, 3); move(LAST-1)",
            "power(1, 5, 0); raw(0, 0) 5",
            "again(2); raw(0, 3) 10; raw(0, 0) 5");
        Run.of("MARKS, the SWITCH at the last TIME", "phases(1, 4); set(1, 1); set(10, 1); set(3, 1); pay(5)",
            "prepaid(true); move(LAST)",
            "power(0, 1, 0); marked(4, 0) 0; again(1); marked(4, 0) 1; log(0, 1) 4; log(0, 0) LAST; again(3)",
            "marked(4, 2) 4",
            "power(1, 5, 0); log(1, 1) 22; log(1, 0) LAST; log(0, 1) 14; log(0, 0) LAST; look(4) 1");
    }

    private static void registersThatThereAre() {
        Run run = Run.of("NONE if there is none such", "phases(1, 4); set(1, 1); power(1, 3, 4)");
        long[] due = {3, 0, 4, 0, 0, 0, 5};
        for (int r = 0; r < 7; r++) {
            for (String call : new String[] {"raw(", "reading("}) {
                run.go(call + r + ", 0) " + due[r], call + r + ", NONE) " + due[r], call + r + ", 3) 0",
            call + r + ", 4) NONE");
                run.go(call + r + ", -2) NONE", call + r + ", MAX) NONE", call + r + ", MIN) NONE");
            }
        }
        run.go("raw(7, 0) NONE; raw(-1, 0) NONE; raw(MAX, 0) NONE; raw(MIN, NONE) NONE; reading(7, 0) NONE",
            "reading(-1, 0) NONE");
        run.go("reading(MAX, NONE) NONE; reading(MIN, 0) NONE");
    }
}
