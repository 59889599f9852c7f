/** Promises 6, 7, 14, 15, 16, 26, 27, 28, 29, 39, 40, 46: the CALENDAR and what it tells of times. */
public final class CalendarTest {
    private static final int DAY = 86400;
    private static final int LAST = 2000000000;

    private CalendarTest() {
    }

    public static void main(String[] args) {
        switchesOfATable();
        tariffBySwitches();
        seasonsOfTheYear();
        seasonsThatBeginTogether();
        weeks();
        specialDays();
        sixteenSpecialDays();
        nextChange();
        nextIsBounded();
        nextBehindManySwitches();
        cost();
        cheapest();
        holds();
        Check.finish();
    }

    private static void switchesOfATable() {
        WorkMeter x = new WorkMeter();
        int[] seconds = {500, 0, 86399, 400, 600, 1};
        for (int k = 0; k < 6; k++) {
            Check.due("table", x.table(7, seconds[k], k % 4), k + 1);
        }
        Check.due("a seventh", x.table(7, 2, 0), -1);
        Check.due("told again", x.table(7, 400, 1), 6);
        int[] due = {0, 1, 400, 500, 600, 86399};
        int[] tariffs = {1, 1, 1, 0, 0, 2};
        for (int k = 0; k < 6; k++) {
            Check.due("second", x.switching(7, k, 0), due[k]);
            Check.due("TARIFF", x.switching(7, k, 1), tariffs[k]);
        }
        for (int what : new int[] {0, 1, 2, -1, Integer.MAX_VALUE, Integer.MIN_VALUE}) {
            Check.due("how many, whatever what is", x.switching(7, -1, what), 6);
            Check.due("none of TABLE 6", x.switching(6, -1, what), 0);
            Check.due("no TABLE", x.switching(8, -1, what), -1);
            Check.due("no TABLE", x.switching(-1, -1, what), -1);
        }
        Check.due("none such", x.switching(7, 6, 0), -1);
        Check.due("none such", x.switching(7, -2, 0), -1);
        Check.due("another what", x.switching(7, 0, 2), -1);
        Check.due("another what", x.switching(7, 0, -1), -1);
        Check.due("none such, another what", x.switching(6, 0, 2), -1);
        int[][] wrong = {{8, 0, 0}, {-1, 0, 0}, {0, 86400, 0}, {0, -1, 0}, {0, 0, 4}, {0, 0, -1}};
        for (int[] w : wrong) {
            Check.due("table", x.table(w[0], w[1], w[2]), -1);
        }
        Check.due("wipe(7)", x.wipe(7), 6);
        Check.due("wipe(7)", x.wipe(7), 0);
        Check.due("wipe(8)", x.wipe(8), -1);
        Check.due("wipe(-1)", x.wipe(-1), -1);
        Check.due("after it", x.table(7, 2, 0), 1);
    }

    private static void tariffBySwitches() {
        WorkMeter x = new WorkMeter();
        x.table(0, 100, 3);
        x.table(0, 200, 1);
        int[][] due = {{0, 0}, {99, 0}, {100, 3}, {199, 3}, {200, 1}, {86399, 1}, {DAY, 0}, {DAY + 100, 3},
            {LAST, 1}, {LAST + 1, -1}, {-1, -1}, {Integer.MIN_VALUE, -1}, {Integer.MAX_VALUE, -1}};
        for (int[] d : due) {
            Check.due("tariffAt(" + d[0] + ")", x.tariffAt(d[0]), d[1]);
        }
        x.move(150);
        Check.due("look(1)", x.look(1), 3);
    }

    private static void tableOfSeasons(WorkMeter x) {
        for (int s = 0; s < 4; s++) {
            for (int d = 0; d < 7; d++) {
                Check.due("week", x.week(s, d, s), true);
            }
        }
    }

    private static void seasonsOfTheYear() {
        WorkMeter x = new WorkMeter();
        tableOfSeasons(x);
        Check.due("season(1, 100)", x.season(1, 100), true);
        Check.due("season(3, 364)", x.season(3, 364), true);
        int[][] due = {{0, 0}, {99, 0}, {100, 1}, {363, 1}, {364, 3}, {365, 0}, {365 + 100, 1}, {23148, 1}};
        for (int[] d : due) {
            Check.due("tableOf(" + d[0] + ")", x.tableOf(d[0]), d[1]);
        }
        Check.due("SEASON 0 later", x.season(0, 50), true);
        Check.due("ahead of all: the last of all", x.tableOf(49), 3);
        Check.due("tableOf(50)", x.tableOf(50), 0);
        Check.due("no more told", x.season(3, -1), true);
        Check.due("the last of all", x.tableOf(49), 1);
        Check.due("look(43)", x.look(43), -1);
        Check.due("look(41)", x.look(41), 100);
        Check.due("not told, once more", x.season(3, -1), true);
        int[][] wrong = {{0, -1}, {0, 365}, {1, 365}, {1, -2}, {4, 0}, {-1, 0}};
        for (int[] w : wrong) {
            Check.due("season", x.season(w[0], w[1]), false);
        }
        Check.due("tableOf(-1)", x.tableOf(-1), -1);
        Check.due("tableOf(23149)", x.tableOf(23149), -1);
    }

    private static void seasonsThatBeginTogether() {
        WorkMeter x = new WorkMeter();
        tableOfSeasons(x);
        x.season(2, 10);
        x.season(1, 10);
        Check.due("the least of several", x.tableOf(10), 1);
        x.season(0, 10);
        Check.due("the least of several", x.tableOf(300), 0);
        x.season(0, 5);
        Check.due("the least of the last", x.tableOf(4), 1);
        x.season(0, 10);
        x.season(1, -1);
        Check.due("the least of the last", x.tableOf(4), 0);
    }

    private static void weeks() {
        WorkMeter x = new WorkMeter();
        Check.due("week", x.week(0, 6, 7), true);
        Check.due("week of a SEASON not told", x.week(2, 0, 5), true);
        Check.due("tableOf(6)", x.tableOf(6), 7);
        Check.due("tableOf(13)", x.tableOf(13), 7);
        Check.due("tableOf(7)", x.tableOf(7), 0);
        x.season(2, 7);
        Check.due("told then", x.tableOf(7), 5);
        int[][] wrong = {{4, 0, 0}, {-1, 0, 0}, {0, 7, 0}, {0, -1, 0}, {0, 0, 8}, {0, 0, -1}};
        for (int[] w : wrong) {
            Check.due("week", x.week(w[0], w[1], w[2]), false);
        }
    }

    private static void specialDays() {
        WorkMeter x = new WorkMeter();
        Check.due("special(3, 2)", x.special(3, 2), true);
        Check.due("tableOf(3)", x.tableOf(3), 2);
        Check.due("tableOf(368)", x.tableOf(368), 2);
        Check.due("told again", x.special(3, 4), true);
        Check.due("tableOf(3)", x.tableOf(3), 4);
        Check.due("look(15)", x.look(15), 1);
        x.special(364, 1);
        x.special(0, 7);
        Check.due("no more", x.special(3, -1), true);
        Check.due("it is none", x.special(3, -1), false);
        Check.due("tableOf(3)", x.tableOf(3), 0);
        Check.due("tableOf(364)", x.tableOf(364), 1);
        Check.due("tableOf(0)", x.tableOf(0), 7);
        Check.due("look(15)", x.look(15), 2);
        int[][] wrong = {{-1, 0}, {365, 0}, {0, 8}, {0, -2}, {365, -1}, {-1, -1}};
        for (int[] w : wrong) {
            Check.due("special", x.special(w[0], w[1]), false);
        }
        Check.due("look(15)", x.look(15), 2);
    }

    private static void sixteenSpecialDays() {
        WorkMeter x = new WorkMeter();
        for (int d = 0; d < 16; d++) {
            Check.due("special", x.special(d, d % 7 + 1), true);
        }
        Check.due("a seventeenth", x.special(16, 0), false);
        Check.due("one of them told again", x.special(5, 7), true);
        Check.due("tableOf(5)", x.tableOf(5), 7);
        Check.due("one goes", x.special(2, -1), true);
        for (int d = 0; d < 16; d++) {
            Check.due("the others stay", x.tableOf(d), d == 2 ? 0 : d == 5 ? 7 : d % 7 + 1);
        }
        Check.due("and one comes", x.special(16, 3), true);
        Check.due("look(15)", x.look(15), 16);
    }

    private static void nextChange() {
        WorkMeter x = new WorkMeter();
        x.table(0, 0, 1);
        x.table(0, 10, 1);
        Check.due("never another", x.next(0), -1);
        Check.due("never another", x.next(1), -1);
        x.table(0, 20, 2);
        Check.due("next(0)", x.next(0), 20);
        Check.due("next(1)", x.next(1), 2);
        x.move(19);
        Check.due("next(0)", x.next(0), 20);
        x.move(20);
        Check.due("the next DAY", x.next(0), DAY);
        Check.due("its TARIFF", x.next(1), 1);
        Check.due("another what", x.next(2), -1);
        Check.due("another what", x.next(-1), -1);
    }

    private static void nextIsBounded() {
        WorkMeter x = new WorkMeter();
        x.table(1, 86399, 1);
        x.special(14, 1);
        Check.due("the last second of the 14th DAY", x.next(0), 15 * DAY - 1);
        x.special(14, -1);
        x.table(2, 0, 1);
        x.special(15, 2);
        Check.due("the first of the 15th", x.next(0), -1);
        x.move(DAY);
        Check.due("a DAY later", x.next(0), 15 * DAY);
        x.special(23148 % 365, 3);
        x.table(3, LAST - 23148 * DAY, 2);
        x.move(LAST - 1);
        Check.due("at the last TIME", x.next(0), LAST);
        x.wipe(3);
        x.table(3, LAST - 23148 * DAY + 1, 2);
        Check.due("behind it", x.next(0), -1);
        x.move(LAST);
        Check.due("none", x.next(0), -1);
    }

    // SWITCHES that change nothing, as many as there may be, stand ahead of the one that does.
    private static void nextBehindManySwitches() {
        WorkMeter x = new WorkMeter();
        for (int k = 1; k <= 6; k++) {
            x.table(0, k * 100, 0);
            x.table(1, k * 100, k == 6 ? 2 : 0);
        }
        Check.due("none", x.next(0), -1);
        x.special(14, 1);
        Check.due("the 14th DAY's last SWITCH", x.next(0), 14 * DAY + 600);
        Check.due("its TARIFF", x.next(1), 2);
    }

    private static void cost() {
        WorkMeter x = new WorkMeter();
        x.set(10, 1);
        x.set(11, 10);
        x.set(13, 100);
        x.table(0, 100, 1);
        x.table(0, 86399, 3);
        Check.due("cost(100)", x.cost(100), 100);
        Check.due("cost(101)", x.cost(101), 110);
        Check.due("a DAY", x.cost(DAY), 100 + 86299 * 10 + 100);
        Check.due("cost(100000)", x.cost(100000), 100 + 86299 * 10 + 100 + 100 + 13500 * 10);
        Check.due("cost(100001)", x.cost(100001), -1);
        Check.due("cost(0)", x.cost(0), -1);
        Check.due("cost(-1)", x.cost(-1), -1);
        x.move(LAST - 99);
        Check.due("to the last SECOND", x.cost(100), 1000);
        Check.due("beyond it", x.cost(101), -1);
        x.move(LAST);
        Check.due("the last alone", x.cost(1), 10);
    }

    private static void cheapest() {
        WorkMeter x = new WorkMeter();
        Check.due("all alike: the first", x.cheapest(100, 0), 0);
        x.set(10, 5);
        x.set(11, 2);
        x.set(12, 1);
        x.table(0, 900, 1);
        x.table(0, 1800, 0);
        Check.due("cheapest(900, 0)", x.cheapest(900, 0), 900);
        Check.due("cheapest(900, 1)", x.cheapest(900, 1), 1800);
        x.table(1, 0, 0);
        x.special(0, 1);
        x.table(0, 0, 2);
        x.table(0, 900, 0);
        x.move(100);
        // The last start, 85500 later, has all but the 800 seconds ahead of the DAY's end dear.
        Check.due("the last start", x.cheapest(1500, 0), 85600);
        Check.due("its cost", x.cheapest(1500, 1), 800 * 5 + 700);
        Check.due("n", x.cheapest(0, 0), -1);
        Check.due("n", x.cheapest(100001, 0), -1);
        Check.due("n", x.cheapest(100000, 0) >= 0, true);
        Check.due("what", x.cheapest(1, 2), -1);
        Check.due("what", x.cheapest(1, -1), -1);
        x.move(LAST - 85500 - 9);
        Check.due("to the last SECOND", x.cheapest(10, 1) >= 0, true);
        Check.due("beyond it", x.cheapest(11, 1), -1);
    }

    private static void holds() {
        WorkMeter x = new WorkMeter();
        x.table(0, 0, 1);
        x.table(0, 1000, 0);
        x.table(0, 2000, 1);
        x.table(0, 86399, 3);
        int[] due = {1000, 1000 + 84399, 0, 1};
        for (int t = 0; t < 4; t++) {
            Check.due("holds(0, " + t + ")", x.holds(0, t), due[t]);
            Check.due("holds(23148, " + t + ")", x.holds(23148, t), due[t]);
        }
        x.special(1, 7);
        Check.due("a TABLE without SWITCHES", x.holds(1, 0), DAY);
        int[][] wrong = {{-1, 0}, {23149, 0}, {0, -1}, {0, 4}};
        for (int[] w : wrong) {
            Check.due("holds", x.holds(w[0], w[1]), -1);
        }
    }
}
