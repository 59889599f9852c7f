/** The edges of part 2, and of what is asked of the CALENDAR (promises 6, 7, 14, 15, 16, 26, 27, 28, 29, 39, 40, 46). */
public final class CalendarEdgesTest {
    private CalendarEdgesTest() {
    }

    public static void main(String[] args) {
        atFirst();
        switchesThatCanBe();
        sixSwitchesAndASeventh();
        toldAgain();
        wiped();
        switching();
        tariffs();
        seasonsThatCanBe();
        seasonOfADay();
        weeks();
        specials();
        sixteenAndASeventeenth();
        daysOfWeekAndYear();
        next();
        cost();
        cheapest();
        holds();
        Check.finish();
    }

    private static void atFirst() {
        Run run = Run.of("none at first; SEASON 0 from 0 on, at first; others are not told; 0 at first",
            "look(40) 0; look(41) NONE; look(42) NONE; look(43) NONE; look(15) 0; look(1) 0; next(0) NONE",
            "next(1) NONE");
        for (int t = 0; t < 8; t++) {
            run.go("switching(" + t + ", NONE, 0) 0; switching(" + t + ", 0, 0) NONE; wipe(" + t + ") 0");
        }
        for (int d = 0; d < 8; d++) {
            run.go("tableOf(" + d + ") 0; holds(" + d + ", 0) 86400; holds(" + d + ", 1) 0");
        }
        run.go("season(1, 0) 1; season(0, 1) 1; tableOf(0) 0; season(2, 3) 1; tableOf(3) 0; season(3, 4) 1",
            "tableOf(4) 0");
    }

    private static void switchesThatCanBe() {
        Run run = Run.of("a second of the day 0 .. 86399, a TARIFF 0 .. 3");
        for (int t = 0; t < 8; t++) {
            run.go("table(" + t + ", 0, 0) 1; table(" + t + ", 86399, 3) 2; table(" + t + ", -1, 0) NONE");
            run.go("table(" + t + ", 86400, 0) NONE; table(" + t + ", 5, -1) NONE; table(" + t + ", 5, 4) NONE");
            run.go("switching(" + t + ", NONE, 0) 2; switching(" + t + ", 0, 0) 0; switching(" + t + ", 1, 0) 86399");
            run.go("switching(" + t + ", 0, 1) 0; switching(" + t + ", 1, 1) 3");
        }
        run.go("table(8, 0, 0) NONE; table(-1, 0, 0) NONE; table(MAX, 0, 0) NONE; table(MIN, 0, 0) NONE");
    }

    private static void sixSwitchesAndASeventh() {
        Run run = Run.of("NONE if it can't be, or it would be a seventh",
            "table(3, 50, 1) 1; table(3, 40, 2) 2; table(3, 30, 3) 3; table(3, 60, 0) 4; table(3, 45, 1) 5",
            "table(3, 20, 2) 6",
            "table(3, 0, 1) NONE; table(3, 41, 1) NONE; table(3, 86399, 1) NONE; switching(3, NONE, 0) 6",
            "switching(3, 6, 0) NONE");
        int[][] due = {{20, 2}, {30, 3}, {40, 2}, {45, 1}, {50, 1}, {60, 0}};
        for (int i = 0; i < due.length; i++) {
            run.go("switching(3, " + i + ", 0) " + due[i][0] + "; switching(3, " + i + ", 1) " + due[i][1]);
        }
        run.go("switching(2, NONE, 0) 0; switching(4, NONE, 0) 0; table(4, 0, 1) 1; table(2, 0, 1) 1");
    }

    private static void toldAgain() {
        Run.of("that second told again: the later TARIFF", "table(0, 10, 1) 1; table(0, 10, 2) 1; switching(0, 0, 1) 2",
            "table(0, 11, 1) 2; table(0, 12, 1) 3; table(0, 13, 1) 4; table(0, 14, 1) 5; table(0, 15, 1) 6",
            "table(0, 10, 3) 6; table(0, 15, 3) 6; table(0, 12, 0) 6; table(0, 9, 0) NONE; table(0, 16, 0) NONE",
            "switching(0, 0, 1) 3; switching(0, 1, 1) 1; switching(0, 2, 1) 0; switching(0, 5, 1) 3; tariffAt(10) 3");
    }

    private static void wiped() {
        Run.of("A TABLE has no SWITCHES any more: how many it had", "table(7, 1, 1); table(7, 2, 2); table(6, 1, 1)",
            "wipe(7) 2; wipe(7) 0; switching(7, NONE, 0) 0; switching(6, NONE, 0) 1; switching(7, 0, 0) NONE",
            "table(7, 3, 3) 1; switching(7, 0, 0) 3; wipe(-1) NONE; wipe(8) NONE; wipe(6) 1; wipe(0) 0");
        Run.of("six can be told again then", "table(0, 1, 1); table(0, 2, 1); table(0, 3, 1); table(0, 4, 1)",
            "table(0, 5, 1)",
            "table(0, 6, 1) 6; wipe(0) 6; table(0, 7, 2) 1; table(0, 1, 3) 2; tariffAt(6) 3; tariffAt(7) 2");
    }

    private static void switching() {
        Run.of("NONE if there is none such, or another what", "table(0, 10, 1); table(0, 20, 2); switching(0, 0, 0) 10",
            "switching(0, 1, 1) 2; switching(0, 2, 0) NONE; switching(0, -2, 0) NONE; switching(0, MAX, 0) NONE",
            "switching(0, MIN, 0) NONE; switching(0, 1, 2) NONE; switching(0, 1, -1) NONE; switching(8, 0, 0) NONE",
            "switching(-1, 0, 0) NONE; switching(8, NONE, 0) NONE; switching(-1, NONE, 0) NONE",
            "switching(1, 0, 0) NONE",
            "switching(0, NONE, 0) 2; switching(0, NONE, 1) 2; switching(0, NONE, 2) 2; switching(0, NONE, -1) 2");
    }

    private static void tariffs() {
        Run.of("the SWITCH with the latest second that is no later; else 0", "table(0, 100, 3); table(0, 200, 1)",
            "tariffAt(0) 0; tariffAt(99) 0; tariffAt(100) 3; tariffAt(101) 3; tariffAt(199) 3; tariffAt(200) 1",
            "tariffAt(86399) 1; tariffAt(86400) 0; tariffAt(86499) 0; tariffAt(86500) 3; tariffAt(172799) 1");
        Run.of("a TABLE without SWITCHES", "table(0, 0, 2); week(0, 1, 5); tariffAt(86399) 2; tariffAt(86400) 0",
            "tariffAt(172799) 0",
            "tariffAt(172800) 2");
        Run.of("at the first and at the last second of a day", "table(0, 0, 1); table(0, 86399, 2); tariffAt(0) 1",
            "tariffAt(86398) 1; tariffAt(86399) 2; tariffAt(86400) 1; tariffAt(LAST) 1");
        Run.of("TARIFF at a TIME. NONE if there is none such", "tariffAt(-1) NONE; tariffAt(0) 0; tariffAt(LAST) 0",
            "tariffAt(LAST+1) NONE; tariffAt(MAX) NONE; tariffAt(MIN) NONE");
        // 2000000000 is second 12800 of DAY 23148.
        Run.of("TARIFF at the last TIME", "table(0, 12800, 1); tariffAt(LAST) 1; tariffAt(LAST-1) 0; move(LAST)",
            "look(1) 1",
            "wipe(0); table(0, 12801, 1); tariffAt(LAST) 0; look(1) 0");
        Run.of("TARIFF now", "table(0, 1, 3); look(1) 0; again(1); look(1) 3; move(86399); look(1) 3; off(1)",
            "look(1) 0");
    }

    private static void seasonsThatCanBe() {
        Run run = Run.of("A SEASON begins at a day of the YEAR (0 .. 364)");
        for (int s = 0; s < 4; s++) {
            run.go("season(" + s + ", 364) 1; look(" + (40 + s) + ") 364; season(" + s + ", 365) 0",
            "season(" + s + ", -2) 0");
            run.go("season(" + s + ", MAX) 0; look(" + (40 + s) + ") 364; season(" + s + ", 0) 1",
            "look(" + (40 + s) + ") 0");
        }
        run.go("season(4, 0) 0; season(-1, 0) 0; season(4, NONE) 0; season(-1, NONE) 0; season(MAX, 0) 0",
            "season(MIN, 0) 0");
        run.go("season(0, NONE) 0; look(40) 0; season(1, NONE) 1; look(41) NONE; season(1, NONE) 1; look(41) NONE");
        run.go("season(2, NONE) 1; season(3, NONE) 1; look(42) NONE; look(43) NONE; season(3, 7) 1; look(43) 7");
    }

    private static final String OWN_TABLES = "week(0, 0, 4); week(0, 1, 4); week(0, 2, 4); week(0, 3, 4); week(0, 4, 4);"
        + "week(0, 5, 4); week(0, 6, 4); week(1, 0, 5); week(1, 1, 5); week(1, 2, 5); week(1, 3, 5); week(1, 4, 5); week(1, 5, 5);"
        + "week(1, 6, 5); week(2, 0, 6); week(2, 1, 6); week(2, 2, 6); week(2, 3, 6); week(2, 4, 6); week(2, 5, 6); week(2, 6, 6);"
        + "week(3, 0, 7); week(3, 1, 7); week(3, 2, 7); week(3, 3, 7); week(3, 4, 7); week(3, 5, 7); week(3, 6, 7)";

    // SEASON s has TABLE 4 + s on each day.
    private static void seasonOfADay() {
        Run.of("of those told the one that begins last at it or ahead of it", OWN_TABLES, "season(1, 100)",
            "season(2, 200)",
            "tableOf(0) 4; tableOf(99) 4; tableOf(100) 5; tableOf(101) 5; tableOf(199) 5; tableOf(200) 6",
            "tableOf(364) 6",
            "tableOf(365) 4; season(3, 364); tableOf(363) 6; tableOf(364) 7; tableOf(365) 4; season(2, NONE)",
            "tableOf(200) 5");
        Run.of("of several the least", OWN_TABLES, "season(3, 50); season(2, 50); tableOf(50) 6; tableOf(49) 4",
            "season(1, 50)",
            "tableOf(50) 5; tableOf(364) 5; season(0, 50); tableOf(50) 4; season(0, 49); tableOf(50) 5; tableOf(49) 4");
        Run.of("if there is none, the one that begins last of all", OWN_TABLES, "season(0, 10); tableOf(9) 4",
            "season(1, 20)",
            "tableOf(9) 5; tableOf(0) 5; tableOf(10) 4; season(3, 300); tableOf(9) 7; season(2, 300); tableOf(9) 6",
            "tableOf(300) 6",
            "season(0, 364); tableOf(9) 4; tableOf(20) 5; season(0, 300); tableOf(9) 4; tableOf(365) 4");
        Run.of("of several that begin last of all the least", OWN_TABLES, "season(0, 10); season(1, 10); tableOf(9) 4",
            "season(0, 9); tableOf(8) 5; season(2, 10)",
            "tableOf(8) 5; season(1, NONE); tableOf(8) 6; season(3, 10); tableOf(8) 6; tableOf(10) 6; tableOf(9) 4");
        Run.of("the order in which they are told does not matter", OWN_TABLES, "season(1, 200); season(2, 100)",
            "tableOf(150) 6",
            "tableOf(200) 5; tableOf(99) 4; season(0, 250); tableOf(99) 4; tableOf(250) 4; tableOf(249) 5");
    }

    private static void weeks() {
        Run run = Run.of("TABLE of a SEASON (told or not) for a day of the WEEK");
        for (int s = 0; s < 4; s++) {
            run.go("week(" + s + ", 0, 0) 1; week(" + s + ", 6, 7) 1; week(" + s + ", -1, 0) 0",
            "week(" + s + ", 7, 0) 0");
            run.go("week(" + s + ", 0, -1) 0; week(" + s + ", 0, 8) 0; week(" + s + ", 3, " + (s + 1) + ") 1");
        }
        run.go("week(4, 0, 0) 0; week(-1, 0, 0) 0; week(MAX, 0, 0) 0; week(0, MAX, 0) 0; week(0, 0, MAX) 0",
            "week(0, 0, MIN) 0");
        run.go("tableOf(0) 0; tableOf(3) 1; tableOf(6) 7; tableOf(5) 0; tableOf(7) 0; tableOf(13) 7; tableOf(10) 1");
        run.go("season(2, 1); tableOf(3) 3; season(2, NONE); season(3, 1); tableOf(3) 4; tableOf(6) 7");
    }

    private static void specials() {
        Run.of("SPECIAL days: a day of the YEAR has a TABLE", "special(0, 7) 1; special(364, 1) 1; tableOf(0) 7",
            "tableOf(364) 1",
            "tableOf(1) 0; tableOf(363) 0; tableOf(365) 7; tableOf(729) 1; tableOf(23148) 0; special(153, 5) 1",
            "tableOf(23148) 5",
            "special(-1, 0) 0; special(365, 0) 0; special(1, 8) 0; special(1, -2) 0; look(15) 3");
        Run.of("TABLE NONE: it is none any more; false if it is none", "special(5, NONE) 0; special(5, 3) 1",
            "look(15) 1",
            "special(5, NONE) 1; look(15) 0; tableOf(5) 0; special(5, NONE) 0; special(365, NONE) 0",
            "special(-1, NONE) 0");
        Run.of("TABLE 0 is one too", "week(0, 5, 2); tableOf(5) 2; special(5, 0) 1; tableOf(5) 0; look(15) 1",
            "special(5, NONE) 1",
            "tableOf(5) 2");
        Run.of("that of its SPECIAL day, else that of its SEASON", "week(0, 0, 1); week(1, 0, 2); season(1, 7)",
            "special(7, 3)",
            "special(14, 4); tableOf(7) 3; tableOf(14) 4; tableOf(21) 2; tableOf(0) 1; special(7, NONE); tableOf(7) 2");
    }

    private static void sixteenAndASeventeenth() {
        Run run = Run.of("16 at most");
        for (int d = 0; d < 16; d++) {
            run.go("special(" + d * 20 + ", " + (d % 7 + 1) + ") 1; look(15) " + (d + 1));
        }
        run.go("special(364, 1) 0; look(15) 16; tableOf(364) 0; special(364, NONE) 0; look(15) 16");
        // A day that is SPECIAL already is told anew: it would be no seventeenth.
        run.go("special(0, 5) 1; tableOf(0) 5; special(300, 6) 1; tableOf(300) 6; look(15) 16");
        for (int d = 1; d < 15; d++) {
            run.go("tableOf(" + d * 20 + ") " + (d % 7 + 1));
        }
        run.go("special(300, NONE) 1; look(15) 15; special(364, 1) 1; look(15) 16; special(300, 1) 0; tableOf(300) 0");
        run.go("special(0, NONE) 1; tableOf(364) 1; tableOf(0) 0; tableOf(20) 2; special(1, 3) 1; special(0, 1) 0",
            "look(15) 16");
    }

    private static void daysOfWeekAndYear() {
        Run.of("day of the WEEK: DAY modulo 7; of the YEAR: DAY modulo 365", "week(0, 0, 1); week(0, 6, 2)",
            "season(1, 364)",
            "week(1, 0, 3); week(1, 1, 4); tableOf(0) 1; tableOf(6) 2; tableOf(7) 1; tableOf(13) 2; tableOf(363) 2",
            "tableOf(364) 3",
            "tableOf(365) 0; tableOf(370) 2; tableOf(371) 1; tableOf(729) 4; tableOf(730) 0");
        Run.of("TABLE of a DAY (0 .. 23148). NONE if there is none such", "week(0, 6, 5); tableOf(23148) 5",
            "tableOf(23147) 0",
            "tableOf(23149) NONE; tableOf(-1) NONE; tableOf(MAX) NONE; tableOf(MIN) NONE");
        Run.of("DAY: TIME by 86400", "special(1, 1); table(1, 0, 3); tariffAt(86399) 0; tariffAt(86400) 3",
            "tariffAt(172799) 3",
            "tariffAt(172800) 0");
    }

    private static void next() {
        Run.of("the first TIME later than now", "table(0, 10, 1); next(0) 10; next(1) 1; move(9); next(0) 10; move(10)",
            "next(0) 86400; next(1) 0; move(86399); next(0) 86400; move(86400); next(0) 86410");
        Run.of("at which the TARIFF is another one than a second ahead of it", "table(0, 0, 2); table(0, 5, 2)",
            "table(0, 9, 2)",
            "next(0) NONE; next(1) NONE; table(0, 5, 0); next(0) 5; next(1) 0; move(5); next(0) 9; next(1) 2; move(9)",
            "next(0) DAY+5");
        Run.of("by the end of the 14th DAY behind this one", "special(14, 1); table(1, 86399, 3); next(0) 1295999",
            "next(1) 3",
            "move(86399); next(0) 1295999; wipe(1); special(15, 2); table(2, 0, 3); next(0) NONE; next(1) NONE",
            "move(86400)",
            "next(0) 1296000; next(1) 3");
        // The last TIME is second 12800 of DAY 23148, which is day 153 of its YEAR.
        Run.of("and of 2000000000", "special(153, 1); table(1, 12800, 3); move(LAST-1); next(0) LAST; next(1) 3",
            "move(LAST)",
            "next(0) NONE; next(1) NONE; move(LAST-1); wipe(1); table(1, 12801, 3); next(0) NONE; next(1) NONE",
            "move(LAST-100000); next(0) NONE; table(1, 12799, 2); next(0) LAST-1");
        // SWITCHES that change nothing, as many as there can be, stand ahead of the one that does.
        Run.of("behind 15 DAYS of SWITCHES", "table(0, 1, 0); table(0, 2, 0); table(0, 3, 0); table(0, 4, 0)",
            "table(0, 5, 0); table(0, 6, 0)",
            "table(1, 1, 0); table(1, 2, 0); table(1, 3, 0); table(1, 4, 0); table(1, 5, 0); table(1, 6, 2)",
            "next(0) NONE; special(14, 1)",
            "next(0) 1209606; next(1) 2; special(14, NONE); special(15, 1); next(0) NONE");
        Run.of("or another what", "table(0, 10, 1); next(2) NONE; next(-1) NONE; next(MAX) NONE; next(MIN) NONE",
            "next(0) 10");
    }

    private static final String PRICES = "set(10, 1); set(11, 10); set(12, 100); set(13, 0)";

    private static void cost() {
        Run.of("COST (n 1 .. 100000) from now on", PRICES, "table(0, 2, 1); table(0, 4, 2); table(0, 5, 3); cost(1) 1",
            "cost(2) 2",
            "cost(3) 12; cost(4) 22; cost(5) 122; cost(6) 122; cost(86400) 122; cost(86401) 123; cost(100000) 244",
            "cost(100001) NONE",
            "cost(0) NONE; cost(-1) NONE; cost(MAX) NONE; cost(MIN) NONE; move(4); cost(1) 100; cost(2) 100",
            "move(86399); cost(2) 1");
        Run.of("NONE if they would go beyond 2000000000", PRICES, "move(LAST); cost(1) 1; cost(2) NONE; move(LAST-1)",
            "cost(2) 2",
            "cost(3) NONE; move(LAST-99999); cost(100000) 100000; move(LAST-99998); cost(100000) NONE",
            "cost(99999) 99999");
    }

    private static void cheapest() {
        Run.of("of several the first", "cheapest(1, 0) 0; cheapest(1, 1) 0; move(77); cheapest(100000, 0) 77",
            "cheapest(100000, 1) 0");
        Run.of("now and each 900 later", PRICES, "table(0, 0, 2); table(0, 900, 1); table(0, 901, 2)",
            "cheapest(1, 0) 900",
            "cheapest(1, 1) 10; cheapest(2, 0) 900; cheapest(2, 1) 110; table(0, 900, 2); table(0, 899, 3)",
            "table(0, 900, 2)",
            "cheapest(1, 0) 0; cheapest(1, 1) 100; cheapest(900, 0) 0; cheapest(900, 1) 89900");
        // 95 * 900 is 85500: the last of the 96; 86400 would be a 97th.
        Run.of("96 of them", PRICES, "table(0, 0, 2); table(0, 85500, 3); table(0, 85501, 2); cheapest(1, 0) 85500",
            "cheapest(1, 1) 0",
            "wipe(0); table(0, 0, 2); special(1, 1); table(1, 0, 3); cheapest(1, 0) 0; cheapest(1, 1) 100",
            "cheapest(901, 0) 85500",
            "cheapest(901, 1) 90000");
        Run.of("NONE if n can't be, or another what", "cheapest(0, 0) NONE; cheapest(-1, 0) NONE",
            "cheapest(100001, 0) NONE",
            "cheapest(100000, 0) 0; cheapest(1, 2) NONE; cheapest(1, -1) NONE; cheapest(MAX, 0) NONE",
            "cheapest(MIN, 0) NONE");
        Run.of("the last of them would go beyond 2000000000", "move(LAST-85500); cheapest(1, 0) LAST-85500",
            "cheapest(2, 0) NONE",
            "cheapest(1, 1) 0; cheapest(2, 1) NONE; move(LAST-85499); cheapest(1, 0) NONE; move(LAST-185499)",
            "cheapest(100000, 0) LAST-185499; move(LAST-185498); cheapest(100000, 0) NONE; cheapest(99999, 1) 0");
    }

    private static void holds() {
        Run.of("For how many seconds of a DAY (0 .. 23148) a TARIFF holds", "table(0, 1, 1); table(0, 86399, 2)",
            "holds(0, 0) 1",
            "holds(0, 1) 86398; holds(0, 2) 1; holds(0, 3) 0; holds(23148, 0) 1; holds(23148, 1) 86398",
            "holds(23149, 0) NONE",
            "holds(-1, 0) NONE; holds(0, -1) NONE; holds(0, 4) NONE; holds(MAX, 0) NONE; holds(MIN, 0) NONE",
            "holds(0, MAX) NONE");
        Run.of("a SWITCH at the first second: TARIFF 0 does not hold", "table(0, 0, 3); holds(0, 0) 0",
            "holds(0, 3) 86400",
            "table(0, 100, 0); table(0, 300, 3); holds(0, 0) 200; holds(0, 3) 86200; special(2, 6); holds(2, 0) 86400",
            "holds(2, 3) 0");
        Run each = Run.of("by the TABLE of its DAY");
        for (int t = 0; t < 8; t++) {
            each.go("table(" + t + ", " + (t + 1) * 100 + ", 1); special(" + t + ", " + t + ")");
        }
        for (int t = 0; t < 8; t++) {
            each.go("holds(" + t + ", 0) " + (t + 1) * 100 + "; holds(" + t + ", 1) " + (86400 - (t + 1) * 100) + "",
            "holds(" + t + ", 2) 0");
        }
        Run.of("all six", "table(0, 10, 1); table(0, 20, 2); table(0, 30, 3); table(0, 40, 1); table(0, 50, 2)",
            "table(0, 60, 3)",
            "holds(0, 0) 10; holds(0, 1) 20; holds(0, 2) 20; holds(0, 3) 86350");
    }
}
