/** The edges of what is IN THOUGHT and of THE IMAGE (part 4; promises 38, 47). */
public final class ThoughtEdgesTest {
    private ThoughtEdgesTest() {
    }

    public static void main(String[] args) {
        wouldThatCanBe();
        wouldAsAgain();
        wouldAtEdges();
        noImage();
        moreThanOnce();
        takenAnew();
        allThatIs();
        withoutTheTape();
        goesOnFromIt();
        Check.finish();
    }

    private static void wouldThatCanBe() {
        Run run = Run.of("WOULD (n 1 .. 900)", "would(1, 6) 1; would(900, 6) 900; would(0, 6) NO; would(901, 6) NO",
            "would(-1, 6) NO; would(MAX, 6) NO; would(MIN, 6) NO",
            "would(1, 7) NO; would(1, -1) NO; would(1, MAX) NO; would(1, MIN) NO; would(900, 7) NO; look(0) 0");
        long[] due = {0, 0, 0, -1, 0, 0, 1};
        for (int what = 0; what < 7; what++) {
            run.go("would(1, " + what + ") " + due[what]);
        }
    }

    // What would be is what is, if it is done.
    private static void wouldAsAgain() {
        String meter = "phases(2, 4); set(1, 7); set(4, 60); set(5, 2); set(10, 2); set(11, 3); table(0, 77, 1); pay(700); prepaid(true);"
            + "samples(3, 5, 3, -1, 1, 0, 0, 0, 0, 0, 0, 0, 0, 0, 0, 0)";
        int[] seconds = {1, 2, 3, 4, 58, 59, 60, 61, 75, 76, 77, 118, 119, 120, 200, 203, 204, 205, 206, 207, 208, 899, 900};
        for (int n : seconds) {
            Run done = Run.of("done", meter, "again(" + n + ")");
            Run thought = Run.of("WOULD of n SECONDS: THE PERIOD is METERED n times", meter);
            long greatest = Math.max(done.ask("greatest(0, 0)"), done.ask("greatest(1, 0)"));
            String[] told = {"reading(0, NONE)", "reading(1, NONE)", "look(2)", "", "look(8)", "look(4)", "look(0)"};
            for (int what = 0; what < told.length; what++) {
                long due = what == 3 ? greatest : done.ask(told[what]);
                thought.go("would(" + n + ", " + what + ") " + due);
            }
            thought.go("look(0) 1; look(5) 1; look(9) 0; look(10) 0; block(3) 1");
        }
        Check.due("the SWITCH opens meanwhile", Run.of("", meter).ask("would(900, 5)"), 1);
        Check.due("and not at once", Run.of("", meter).ask("would(61, 5)"), 0);
    }

    private static void wouldAtEdges() {
        Run.of("the greatest of all GREATEST DEMANDS (NONE: none)", "phases(1, 4); set(4, 60); set(5, 1)",
            "table(0, 60, 3); power(1, 5, 0); would(58, 3) NONE",
            "would(59, 3) 300; greatest(0, 0) NONE; again(59); power(1, 9, 0); would(58, 3) 300; would(59, 3) 540",
            "bill(); would(58, 3) NONE; would(59, 3) 540");
        Run.of("MARKS that are ON (bits)", "phases(1, 4); power(0, 1, 0); would(2, 4) 0; would(3, 4) 16",
            "mark(1, true); would(1, 4) 2; would(900, 4) 18; marked(4, 1) 0");
        Run.of("a MARK would go off", "phases(1, 4); set(3, 0); power(0, 1, 0); look(8) 16; phases(1, 4)",
            "would(1, 4) 0; look(8) 16");
        Run.of("EXPORT", "phases(1, 4); set(1, 10); power(1, -4, 0); would(1, 1) 0; would(2, 1) 1; would(900, 1) 360",
            "would(900, 0) 0");
        Run.of("TIME stays at the last", "move(LAST-1); would(1, 6) LAST; would(2, 6) LAST; would(900, 6) LAST",
            "look(0) LAST-1");
        Run.of("SAMPLES that have come are not in it", "phases(1, 4); set(1, 1); power(1, 5, 0)",
            "samples(1, 9, 0, 0, 0, 0); would(1, 0) 10; look(14) 3");
        Run.of("the SWITCH open", "phases(1, 4); set(1, 1); prepaid(true); power(1, 5, 0); would(9, 0) 0",
            "would(9, 5) 1; would(9, 2) 0; would(9, 6) 10");
    }

    private static void noImage() {
        Run.of("false if there is none", "again(5); image(false) 0; look(0) 5; look(5) 5; image(true) 1",
            "image(false) 1");
    }

    private static void moreThanOnce() {
        Run.of("gone back to it may be more than once", "again(5); image(true) 1; again(7); image(false) 1; look(0) 5",
            "image(false) 1; look(0) 5; again(9); bill()",
            "image(false) 1; look(0) 5; look(11) 0; off(50); image(false) 1; look(0) 5; look(7) 0; look(9) 0");
    }

    private static void takenAnew() {
        Run.of("as it was when it was taken", "image(true) 1; again(3); image(true) 1; again(3); image(false) 1",
            "look(0) 3; image(true) 1; again(1); image(false); look(0) 3",
            "would(900, 6) 903; lasts() NONE; again(1); image(false); look(0) 3");
    }

    private static void allThatIs() {
        String told = "phases(2, 4); set(0, 1); set(1, 5); set(2, 7); set(3, 0); set(4, 60); set(5, 1); set(10, 1); set(11, 2); set(12, 3); set(13, 4);"
            + "set(20, 5); set(21, 6); set(22, 7); table(0, 9, 1); table(7, 0, 3); season(1, 5); season(2, 6); week(0, 3, 7); week(3, 1, 6); special(20, 5);"
            + "samples(1, 9, 0, 9, 20, 5, 0, 0, 0, 0, 0, 0, 0, 0, 0, 0); again(100); mark(0, true); pay(1000000); prepaid(true); bill(); again(70);"
            + "off(3); samples(1, 2, 3, 4, 5, 6)";
        String other = "phases(3, 16); set(0, 0); set(2, 0); set(3, 9); set(4, 900); set(5, 4); set(10, 9); set(11, 9); set(12, 9); set(13, 9); set(20, 9);"
            + "set(21, 9); set(22, 9); table(0, 1, 2); wipe(7); season(0, 9); season(1, NONE); season(3, 0); week(0, 3, 1); week(3, 1, 1); special(20, NONE);"
            + "special(21, 1); sample(9, 9); again(900); mark(0, false); mark(1, true); prepaid(false); pay(7); bill(); bill(); move(77); off(5000); seal(5);"
            + "open(1); set(0, 0)";
        Whole before = Whole.of(told, "image(true)");
        Whole.of(told, "image(true)", other).isOtherThan(before, "all these calls");
        Whole.of(told, "image(true)", other, "image(false)").isAs(before, "gone back");
        Whole.of(told, "image(true)", other, "image(false)", other, "image(false)").isAs(before, "gone back twice");
        Whole.of("image(true)", other, "image(false)").isAs(Whole.of("image(true)"), "gone back to a new one");
        ringsGoneBack();
        sealGoneBack();
    }

    // THE LOAD, THE LOGBOOK and BILLS come round meanwhile, over what was kept.
    private static void ringsGoneBack() {
        String full = "phases(1, 4); set(4, 60); set(5, 1); set(1, 1); power(1, 3, 4); off(4000); power(1, -3, 4); set(0, 5); again(30);"
            + "bill(); bill(); again(100); bill(); bill(); bill(); power(2, 30, 40); bill(); again(70); bill(); move(6001); again(7); power(1, -30, 40)";
        StringBuilder other = new StringBuilder("set(0, 0); set(0, 1000000); again(100); set(0, 0); power(1, 9, 9); again(900); off(6000);");
        for (int k = 0; k < 45; k++) {
            other.append("move(").append(k * 60 + 7).append("); bill();");
        }
        Whole before = Whole.of(full, "image(true)");
        Whole.of(full, "image(true)", other.toString(), "image(false)").isAs(before, "gone back, rings and all");
        Run.of("EXPORT of the BLOCK, and where it began", full, "image(true); block(1) 30; block(5) 128; move(0)",
            "block(1) 0; block(5) 0; image(false); block(1) 30",
            "block(5) 128; lost(0) 3; look(6) 130");
    }

    private static void sealGoneBack() {
        Run.of("the code is in it", "seal(5); image(true); open(5) 1; seal(6) 1; image(false); open(6) 0; open(5) 1",
            "look(53) 0");
        Run.of("CREEP is in it", "set(0, 1); again(3); image(true); again(5); look(6) 8; image(false); look(6) 3",
            "look(5) 3");
        Run.of("S of THE PERIOD is in it", "phases(1, 4); power(1, 3, 4); image(true); power(1, 30, 40); image(false)",
            "again(1); raw(6, 0) 10");
    }

    private static void withoutTheTape() {
        Run.of("THE IMAGE (without THE TAPE, fault())", "feed(0, 0, 0, 0, 0); image(true); feed(0, 0, 0, 0, 0)",
            "image(false); look(57) 40; fault(0) 0; calendar() NONE",
            "fault(0) 1; fault(1) 0; image(false); look(57) 0; fault(0) 1; fault(1) 0; calendar() 0; fault(0) 0",
            "image(false); fault(0) 0; fault(1) NONE");
        Run.of("the CALENDAR is in it").go("image(true)").tape("table 1 0:0 3;price 9 9 9 9;").go("calendar() 2",
            "image(false); switching(1, NONE, 0) 0; look(30) 0");
    }

    private static void goesOnFromIt() {
        Run.of("an image from which all goes on", "phases(1, 4); set(4, 60); set(5, 1); set(3, 2); power(0, 1, 0)",
            "again(1); samples(1, 1, 1, 1); image(true); off(100)",
            "image(false); look(14) 2; again(1); marked(4, 0) 1; log(0, 0) 2; again(57); load(0, 0) 60; load(0, 4) 60",
            "load(0, 5) 16; demand(1) 60",
            "samples(1, 1, 1, 1) 0; period(0, 0) 4");
    }
}
