/** The edges of BLOCKS, THE LOAD, DEMAND and OFF (part 3; promises 17, 18, 31, 32, 33, 34, 42, 43, 44). */
public final class BlockEdgesTest {
    // 100 of IMPORT a SECOND, BLOCKS of a minute, none METERED yet but one.
    private static final String MINUTES = "phases(1, 4); set(4, 60); power(10, 10, 0)";

    private BlockEdgesTest() {
    }

    public static void main(String[] args) {
        blocksEnd();
        offEnds();
        movedEnds();
        toldEnds();
        begins();
        statusOfMarks();
        blockThatGoesOn();
        loadEmptyAndFull();
        lost();
        demandWindows();
        demandLines();
        greatest();
        best();
        between();
        moves();
        off();
        whatsThatThereAre();
        Check.finish();
    }

    private static void blocksEnd() {
        for (int block : new int[] {60, 300, 900, 1800, 3600}) {
            Run run = Run.of("BLOCKS end as TIME is a multiple of BLOCK", "phases(1, 4); set(4, " + block + ")",
            "power(10, 10, 0)");
            for (int left = block - 2; left > 0; left -= 900) {
                run.go("again(" + Math.min(left, 900) + ")");
            }
            run.go("look(0) " + (block - 1) + "; look(10) 0; load(NONE, 0) 0; block(3) " + (block - 1) + "",
            "block(0) " + 100 * (block - 1));
            run.go("again(1); look(10) 1; block(3) 0; block(0) 0; load(0, 0) " + block + "; load(0, 1) " + 100 * block);
            run.go("load(0, 2) 0; load(0, 3) " + 100 * block + "; load(0, 4) " + block + "; load(0, 5) 0; again(1)",
            "block(3) 1; look(10) 1");
        }
        Run.of("a sample's SECOND ends one too", MINUTES, "again(58); look(10) 0; power(10, -10, 0); look(10) 1",
            "load(0, 1) 5900; load(0, 2) 100");
    }

    private static void offEnds() {
        Run.of("behind a SECOND that was METERED, or OFF", MINUTES, "off(58); look(10) 0; block(4) 58; off(1)",
            "look(10) 1; block(4) 0",
            "load(0, 0) 60; load(0, 1) 100; load(0, 4) 1; load(0, 5) 32; off(60); look(10) 2; load(0, 4) 0",
            "load(0, 5) 32; load(0, 0) 120",
            "off(59); look(10) 2; again(1); look(10) 3; load(0, 4) 1; load(0, 5) 32; again(60); load(0, 5) 0");
        Run.of("each BLOCK that OFF goes over", "set(4, 60); off(3600) 3600; look(10) 60; load(0, 0) 3600",
            "load(59, 0) 60; load(60, 0) NONE",
            "off(100000) 103600; look(10) 1726; load(0, 0) 103560; block(4) 40");
    }

    private static void movedEnds() {
        Run.of("as the clock is moved: a LINE; 64, 128", MINUTES, "again(9); move(600) 10; look(10) 1; load(0, 0) 10",
            "load(0, 1) 1000; load(0, 4) 10",
            "load(0, 5) 192; block(3) 0; block(5) 0; move(120); look(10) 1; again(60); load(0, 0) 180; load(0, 5) 0",
            "move(600) 180; look(10) 2");
        Run.of("Without any SECOND: no LINE", "set(4, 60); move(7); move(60); move(0); look(10) 0; load(NONE, 0) 0",
            "load(0, 0) NONE");
        Run.of("a SECOND OFF is one", "set(4, 60); off(1); move(0) 1; look(10) 1; load(0, 0) 1; load(0, 4) 0",
            "load(0, 5) 224");
        Run.of("one that can't be ends none", MINUTES, "move(-1) NONE; move(LAST+1) NONE; look(10) 0; block(3) 1");
        Run.of("moved to where it is", MINUTES, "move(1) 1; look(10) 1; load(0, 5) 192; block(5) 128; look(0) 1",
            "again(59); load(0, 5) 128; load(0, 4) 59");
    }

    private static void toldEnds() {
        Run.of("BLOCK is told: 64, and 128 (as that was)", "phases(1, 4); power(10, 10, 0); again(299); set(4, 300) 1",
            "look(10) 1; load(0, 0) 300",
            "load(0, 4) 300; load(0, 5) 192; block(5) 0; again(300); load(0, 0) 600; load(0, 5) 0");
        Run.of("it did not begin at a multiple of BLOCK (as that is then)", "set(4, 60); again(60); set(4, 900)",
            "look(10) 1; block(5) 128; again(840)",
            "load(0, 0) 900; load(0, 4) 840; load(0, 5) 128; again(900); load(0, 5) 0; load(0, 0) 1800; set(4, 1800)",
            "block(5) 0; again(60)",
            "set(4, 60) 1; load(0, 0) 1860; load(0, 5) 192; block(5) 0; again(60); load(0, 5) 0");
        Run.of("told as it is", MINUTES, "set(4, 60) 1; look(10) 1; load(0, 5) 192; set(4, 60) 1; look(10) 1",
            "block(5) 128");
        Run.of("at a multiple, without any SECOND", "again(900); look(10) 1; set(4, 900); set(4, 300); look(10) 1",
            "load(0, 5) 0; again(300); load(0, 5) 0");
        Run.of("one that can't be ends none", MINUTES, "set(4, 61) 0; set(5, 6) 1; set(0, 5) 1; look(10) 0");
    }

    private static void begins() {
        Run.of("128 it did not begin at a multiple of BLOCK", MINUTES, "move(61); block(5) 128; again(59)",
            "load(0, 0) 120; load(0, 5) 128; again(60)",
            "load(0, 5) 0; move(119); again(1); load(0, 0) 120; load(0, 4) 1; load(0, 5) 128; move(120); again(60)",
            "load(0, 5) 0");
    }

    private static void statusOfMarks() {
        Run.of("bits of MARKS that were ON behind any of its SECONDS", MINUTES, "mark(0, true); mark(0, false)",
            "block(5) 0; mark(0, true); again(1)",
            "mark(0, false); block(5) 1; mark(1, true); off(1); mark(1, false); block(5) 35; again(57); load(0, 0) 60",
            "load(0, 5) 35; block(5) 0",
            "again(60); load(0, 5) 0");
        Run.of("in the BLOCK's last SECOND alone", "phases(1, 4); set(4, 60); set(3, 59); power(0, 1, 0); again(58)",
            "block(5) 0; again(1); load(0, 5) 16",
            "look(8) 16; block(5) 0; power(1, 1, 0); block(5) 0; again(59); load(0, 5) 0");
        Run.of("one that goes on is in each", MINUTES, "mark(1, true); again(59); load(0, 5) 2; block(5) 0; again(1)",
            "block(5) 2; again(59); load(0, 5) 2",
            "mark(1, false); again(60); load(0, 5) 0");
        Run.of("one that goes on while it is OFF", "set(4, 60); mark(0, true); off(60); load(0, 5) 33; block(5) 0",
            "off(1); block(5) 33; off(119); load(0, 5) 33; load(1, 5) 33; block(5) 0; block(4) 0; look(10) 3");
        Run.of("all of them", "phases(2, 4); set(3, 0); mark(0, true); mark(1, true)",
            "samples(1, -1, 1, 1, 0, 0, 0, 0, 0, 0, 0, 0, 0, 0, 0, 0)",
            "block(5) 11; samples(0, 1, 20, 1, 0, 0, 0, 0, 0, 0, 0, 0, 0, 0, 0, 0); block(5) 31; off(1); block(5) 63",
            "move(0); load(0, 5) 255");
    }

    private static void blockThatGoesOn() {
        Run.of("STATUS as it would be but for 64 and its end", "block(0) 0; block(1) 0; block(2) 0; block(3) 0",
            "block(4) 0; block(5) 0; again(1)",
            "block(3) 1; block(5) 0; off(1); block(4) 1; block(5) 32; move(1); block(4) 0; block(5) 128; off(2)",
            "block(5) 160; move(900); block(5) 0");
        Run.of("the next one begins with nothing", "phases(1, 4); set(4, 60); mark(0, true); power(1, -3, 4)",
            "power(1, 3, 4); off(57); block(0) 3; block(1) 3; off(1)",
            "block(0) 0; block(1) 0; block(2) 0; block(3) 0; block(4) 0; block(5) 0; load(0, 1) 3; load(0, 2) 3",
            "load(0, 3) 10; load(0, 4) 2; load(0, 5) 33");
        Run.of("IMPORT, EXPORT, APPARENT of it", "phases(1, 4); power(1, 3, 4); power(1, -30, 40); block(0) 3",
            "block(1) 30; block(2) 55; block(3) 2");
    }

    private static void loadEmptyAndFull() {
        Run run = Run.of("THE LOAD (the latest 64)", "set(4, 60); load(NONE, 0) 0; load(0, 0) NONE; look(10) 0");
        for (int k = 1; k <= 66; k++) {
            int kept = Math.min(k, 64);
            run.go("off(60); load(NONE, 0) " + kept + "; look(10) " + k + "; load(0, 0) " + 60 * k);
            run.go("load(" + (kept - 1) + ", 0) " + 60 * (k - kept + 1) + "; load(" + kept + ", 0) NONE");
        }
        for (int i = 0; i < 64; i++) {
            run.go("load(" + i + ", 0) " + 60 * (66 - i));
        }
    }

    private static void lost() {
        Run.of("LOST: RAW that came in LINES that are not kept any more", "phases(1, 4); set(4, 60); power(1, 3, 4)",
            "again(9); off(50)",
            "power(1, -30, 40); off(59); off(3720); look(10) 64; lost(0) 0; lost(1) 0; lost(2) 0; lost(3) 0; off(59)",
            "lost(0) 0; off(1)",
            "look(10) 65; lost(0) 30; lost(1) 0; lost(2) 50; lost(3) 10; between(0, LAST) 0; load(63, 2) 30; off(60)",
            "lost(0) 30; lost(1) 30",
            "lost(2) 100; lost(3) 11; off(60); lost(3) 11; lost(4) NONE; lost(-1) NONE; lost(MAX) NONE",
            "lost(MIN) NONE; raw(0, NONE) 30");
    }

    private static void demandWindows() {
        for (int window = 1; window <= 6; window++) {
            Run run = Run.of("the latest WINDOW LINES together, if there are so many",
            MINUTES, "set(5, " + window + "); again(59)");
            for (int k = 1; k < window; k++) {
                run.go("demand(0) NONE; demand(1) NONE; greatest(0, 0) NONE; greatest(0, 1) NONE; again(60)");
            }
            run.go("demand(0) " + 6000 * window + "; demand(1) " + 60 * window + "; greatest(0, 0) " + 6000 * window);
            run.go("off(60); demand(0) " + 6000 * (window - 1) + "; demand(1) " + 60 * (window + 1) + "",
            "greatest(0, 1) " + 60 * window);
        }
        Run.of("WINDOW told meanwhile", MINUTES, "set(5, 2); again(179); demand(0) 12000; set(5, 4); demand(0) 12000",
            "again(60); demand(0) 24000",
            "set(5, 1); again(60); demand(0) 6000; demand(1) 300; greatest(0, 0) 24000; greatest(0, 1) 240");
    }

    private static void demandLines() {
        Run.of("all are without 64, 128", MINUTES, "set(5, 2); again(59); again(30); set(4, 60); again(30)",
            "demand(0) NONE; again(60); demand(0) NONE",
            "again(60); demand(0) 12000; demand(1) 240");
        Run.of("the latest itself has 128", MINUTES, "set(5, 2); again(59); move(70); again(50); load(0, 0) 120",
            "load(0, 5) 128; load(1, 0) 60; load(1, 5) 0; demand(0) NONE",
            "set(5, 1); move(190); again(50); load(0, 0) 240; demand(0) NONE; greatest(0, 0) NONE");
        Run.of("each but the first is BLOCK later than the one ahead", MINUTES, "set(5, 2); again(59); move(120)",
            "again(60); load(0, 0) 180",
            "load(0, 5) 0; demand(0) NONE; again(60); demand(1) 240; demand(0) 12000; move(180); again(60)",
            "load(0, 0) 240; demand(1) 240",
            "greatest(0, 1) 240; move(240); again(60); demand(1) 300");
        Run.of("a move between BLOCKS to where it is breaks nothing", MINUTES, "set(5, 2); again(59); move(60)",
            "again(60); demand(1) 120; demand(0) 12000");
        Run.of("the first may stand anywhere", MINUTES, "set(5, 1); again(59); demand(1) 60; move(600); again(60)",
            "demand(1) 660; demand(0) 6000");
        Run.of("BLOCK as it is", "phases(1, 4); set(5, 2); power(10, 10, 0); again(899); demand(0) NONE; set(4, 300)",
            "again(300); demand(0) 120000",
            "demand(1) 1200; set(4, 60); again(60); demand(1) 1260; again(60); demand(1) 1320; demand(0) 12000");
        Run.of("OFF is in it", MINUTES, "set(5, 2); off(59); off(60); demand(0) 100; demand(1) 120");
        Run.of("as the clock is moved, BLOCK is told: none", MINUTES, "set(5, 1); again(30); move(0); demand(0) NONE",
            "again(30); set(4, 60); demand(0) NONE",
            "greatest(0, 0) NONE; look(10) 2");
        Run.of("The latest DEMAND there was", MINUTES, "set(5, 1); again(59); demand(0) 6000; again(10); move(0)",
            "demand(0) 6000; demand(1) 60; bill()",
            "demand(0) 6000; demand(2) NONE; demand(-1) NONE; demand(MAX) NONE; demand(MIN) NONE");
    }

    private static void greatest() {
        Run.of("the greatest DEMAND, and the TIME at which it came first", MINUTES, "set(5, 1); again(59)",
            "greatest(0, 0) 6000; greatest(0, 1) 60; again(60)",
            "greatest(0, 1) 60; again(59); power(10, 9, 0); greatest(0, 1) 60; power(10, 11, 0); again(59)",
            "greatest(0, 0) 6600; greatest(0, 1) 240",
            "demand(0) 6600; again(60); greatest(0, 1) 240; power(1, 1, 0); again(59); demand(0) 60",
            "greatest(0, 0) 6600");
        Run.of("that of the last SECOND of the BLOCK", MINUTES, "set(5, 1); table(0, 59, 1); table(0, 60, 2)",
            "again(59); greatest(0, 0) NONE",
            "greatest(1, 0) 6000; greatest(1, 1) 60; greatest(2, 0) NONE; again(60); greatest(2, 0) 6000",
            "greatest(2, 1) 120; greatest(3, 0) NONE");
        Run.of("that of the last SECOND OFF", "set(4, 60); set(5, 1); table(0, 119, 3); table(0, 120, 2); off(60)",
            "greatest(0, 0) 0; greatest(0, 1) 60",
            "off(60); greatest(3, 0) 0; greatest(3, 1) 120; off(60); greatest(2, 1) 180; off(60); greatest(2, 1) 180",
            "greatest(1, 1) NONE");
        Run.of("a DEMAND of 0 is one", "set(4, 60); set(5, 1); again(60); demand(0) 0; demand(1) 60; greatest(0, 0) 0",
            "greatest(0, 1) 60; bills(0, 1) NONE",
            "bill(); bills(0, 1) 0; bills(0, 2) NONE; greatest(0, 0) NONE; greatest(0, 1) NONE; again(60)",
            "greatest(0, 1) 120");
    }

    private static void best() {
        // LINES with 3, 5, 5, 3, 5 SECONDS of IMPORT.
        String five = "phases(1, 4); set(4, 60); power(1, 1, 0); again(2); off(57); again(5); off(55); again(5); off(55); again(3); off(57);"
            + "again(5); off(55)";
        Run.of("those with the most RAW of IMPORT together, of several the latest", five, "best(1, 0) 5",
            "best(1, 1) 300; best(2, 0) 10; best(2, 1) 180",
            "best(3, 0) 13; best(3, 1) 300; best(4, 0) 18; best(4, 1) 300; best(5, 0) 21; best(5, 1) 300",
            "best(6, 0) NONE; best(6, 1) NONE",
            "best(0, 0) NONE; best(-1, 0) NONE; best(1, 2) NONE; best(1, -1) NONE; best(MAX, 0) NONE",
            "best(MIN, 0) NONE");
        Run.of("neither the first nor the last of them", "phases(1, 4); set(4, 60); power(1, 1, 0); again(2); off(57)",
            "again(5); off(55); again(1); off(59); best(1, 0) 5",
            "best(1, 1) 120; best(2, 0) 8; best(2, 1) 120; best(3, 0) 9; best(3, 1) 180; again(4); off(56)",
            "best(1, 1) 120; best(2, 0) 8; best(2, 1) 120");
        Run.of("the oldest ones", "phases(1, 4); set(4, 60); power(1, 1, 0); again(59); off(60); best(1, 0) 60",
            "best(1, 1) 60; off(60); best(2, 1) 120");
        Run.of("all alike: the latest", "set(4, 60); off(300); best(1, 0) 0; best(1, 1) 300; best(5, 1) 300",
            "best(4, 1) 300");
        Run.of("BEST of m (1 .. 64)", "phases(1, 4); set(4, 60); power(1, 1, 0); off(3779); load(NONE, 0) 63",
            "best(63, 0) 1; best(64, 0) NONE; off(60)",
            "best(64, 0) 1; best(64, 1) 3840; best(65, 0) NONE; off(60); best(64, 0) 0; best(64, 1) 3900",
            "best(65, 0) NONE; best(1, 1) 3900");
        Run.of("the oldest of 64", "phases(1, 4); set(4, 60); power(1, 3, 0); off(59); power(1, 2, 0); off(3779)",
            "load(NONE, 0) 64; best(1, 0) 3; best(1, 1) 60; best(2, 0) 5; best(2, 1) 120; best(63, 0) 5",
            "best(63, 1) 3780; best(64, 0) 5; off(60); best(1, 0) 2; best(1, 1) 120; best(2, 1) 180; best(64, 0) 2");
        Run.of("there are none", "best(1, 0) NONE; best(1, 1) NONE; best(64, 0) NONE");
        Run.of("as THE LOAD has them, not by TIME", "phases(1, 4); set(4, 60); power(1, 1, 0); again(59); move(0)",
            "again(60); best(2, 0) 120; best(2, 1) 60",
            "move(6000); again(60); best(3, 0) 180; best(3, 1) 6060");
    }

    private static void between() {
        Run.of("later than one TIME and no later than another one", MINUTES, "again(59); power(10, 20, 0); again(59)",
            "between(0, 60) 6000; between(60, 120) 12000",
            "between(59, 60) 6000; between(60, 60) 0; between(59, 59) 0; between(60, 119) 0; between(59, 119) 6000",
            "between(119, 120) 12000",
            "between(120, 121) 0; between(0, LAST) 18000; between(-1, 0) 0; between(MIN, MAX) 18000",
            "between(MAX, MIN) 0; between(120, 0) 0",
            "between(MIN, 60) 6000; between(60, MAX) 12000");
        Run.of("that are kept", MINUTES, "off(59); off(3720); load(NONE, 0) 63; off(60); between(0, LAST) 100",
            "off(60); between(0, LAST) 0");
        Run.of("none", "between(0, LAST) 0; between(MIN, MIN) 0");
        Run.of("the BLOCK that goes on is none", MINUTES, "between(0, LAST) 0; move(0); between(0, LAST) 100",
            "between(0, 1) 100; between(1, 2) 0");
    }

    private static void moves() {
        Run.of("TIME ahead; NONE if it can't be", "move(0) 0; move(LAST) 0; look(0) LAST; move(LAST+1) NONE",
            "move(-1) NONE; look(0) LAST; move(1) LAST",
            "move(MAX) NONE; move(MIN) NONE; look(0) 1; look(9) 3");
        Run.of("SAMPLES stay", "phases(1, 4); samples(1, 1, 2, 2); move(100); look(14) 2; look(5) 0");
    }

    private static void off() {
        Run.of("OFF for n SECONDS (1 .. 100000): TIME then", "off(0) NONE; off(-1) NONE; off(1) 1; off(100000) 100001",
            "off(100001) NONE; look(0) 100001",
            "look(7) 100001; look(9) 2; look(5) 0; off(MAX) NONE; off(MIN) NONE; look(7) 100001");
        Run.of("or it would be beyond 2000000000", "move(LAST-100000); off(100000) LAST; off(1) NONE; look(7) 100000",
            "move(LAST-1); off(2) NONE; look(9) 3",
            "off(1) LAST; look(7) 100001; move(LAST-99999); off(100000) NONE; off(99999) LAST");
        Run.of("SAMPLES of a PERIOD that is not whole are gone", "phases(1, 4); power(1, 5, 0)",
            "samples(9, 9, 9, 9, 9, 9) 3; off(0) NONE; look(14) 3; off(1)",
            "look(14) 0; period(0, 0) 5; sample(1, 1) 1; raw(0, 0) 5; look(5) 1");
        Run.of("nothing is METERED", "phases(1, 4); set(10, 1); power(100, 10, 0); off(50); raw(0, 0) 1000; look(5) 1",
            "look(6) 0; look(2) -1; block(0) 1000");
    }

    private static void whatsThatThereAre() {
        Run.of("NONE if there is none such, or another what", MINUTES, "again(59); load(0, 0) 60; load(0, 5) 0",
            "load(0, 6) NONE; load(0, -1) NONE; load(1, 0) NONE",
            "load(-2, 0) NONE; load(MAX, 0) NONE; load(MIN, 0) NONE; load(NONE, 6) 1; load(NONE, -1) 1",
            "load(NONE, 0) 1; load(64, 0) NONE");
        Run.of("NONE for another what", "block(6) NONE; block(-1) NONE; block(MAX) NONE; block(MIN) NONE",
            "greatest(0, 2) NONE; greatest(0, -1) NONE",
            "greatest(4, 0) NONE; greatest(-1, 0) NONE; greatest(MAX, 0) NONE; greatest(MIN, 1) NONE");
        Run.of("GREATEST of what there is", MINUTES, "set(5, 1); again(59); greatest(0, 0) 6000; greatest(0, 2) NONE",
            "greatest(0, -1) NONE; greatest(4, 0) NONE",
            "greatest(-1, 0) NONE; greatest(3, 0) NONE; greatest(0, MAX) NONE");
    }
}
