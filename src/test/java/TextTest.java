/** Promises 8, 9, 10, 11: THE TAPE, the CALENDAR's TEXT and its FAULTS. */
public final class TextTest {
    private TextTest() {
    }

    public static void main(String[] args) {
        theTape();
        everythingIsToldAnew();
        signsAndBlanks();
        whatCantStandThere();
        numbersThatCantBe();
        toldAlready();
        tooMany();
        theFirstByItsPlace();
        threeHundredBytes();
        allStaysWithAFault();
        sealed();
        Check.finish();
    }

    private static void put(WorkMeter x, String text) {
        for (int k = 0; k < text.length(); k += 20) {
            int[] v = new int[5];
            for (int b = 0; b < 20; b++) {
                v[b / 4] = v[b / 4] << 8 | (k + b < text.length() ? text.charAt(k + b) : 0);
            }
            x.feed(v[0], v[1], v[2], v[3], v[4]);
        }
        Check.due("end of \"" + text + "\"", x.end(text.length()), true);
    }

    private static void good(String text, int lines) {
        WorkMeter x = new WorkMeter();
        put(x, text);
        Check.due("calendar() of \"" + text + "\"", x.calendar(), lines);
        Check.due("fault(0) of \"" + text + "\"", x.fault(0), 0);
        Check.due("fault(1) of \"" + text + "\"", x.fault(1), -1);
        Check.due("THE TAPE is empty", x.look(57), 0);
    }

    private static void bad(String text, int fault, int place) {
        WorkMeter x = new WorkMeter();
        put(x, text);
        Check.due("calendar() of \"" + text + "\"", x.calendar(), -1);
        Check.due("fault(0) of \"" + text + "\"", x.fault(0), fault);
        Check.due("fault(1) of \"" + text + "\"", x.fault(1), place);
        Check.due("THE TAPE is empty", x.look(57), 0);
    }

    private static void theTape() {
        WorkMeter x = new WorkMeter();
        for (int k = 1; k <= 15; k++) {
            Check.due("feed", x.feed(0x20202020, 0x20202020, 0x20202020, 0x20202020, 0x20202020), 20 * k);
        }
        Check.due("more than 300", x.feed(0, 0, 0, 0, 0), -1);
        Check.due("look(57)", x.look(57), 300);
        Check.due("end(301)", x.end(301), false);
        Check.due("end(300)", x.end(300), true);
        Check.due("end(-1)", x.end(-1), false);
        Check.due("end(281)", x.end(281), true);
        Check.due("301", x.feed(0, 0, 0, 0, 0), -1);
        Check.due("end(280)", x.end(280), true);
        Check.due("300", x.feed(-1, -1, -1, -1, -1), 300);
        Check.due("calendar()", x.calendar(), -1);
        Check.due("fault(1)", x.fault(1), 280);
        Check.due("fault(2)", x.fault(2), -1);
        Check.due("fault(-1)", x.fault(-1), -1);
        Check.due("end(0)", x.end(0), true);
        Check.due("end(1)", x.end(1), false);
    }

    private static void everythingIsToldAnew() {
        WorkMeter x = new WorkMeter();
        x.table(0, 5, 1);
        x.table(3, 5, 1);
        x.season(0, 7);
        x.season(1, 8);
        x.week(0, 0, 4);
        x.week(2, 0, 4);
        x.special(1, 6);
        x.set(10, 9);
        put(x, "table 3 23:59 3 0:00 1;season 1 364 1 2 3 4 5 6 7;special 9 5;");
        Check.due("calendar()", x.calendar(), 3);
        Check.due("TABLE 0", x.switching(0, -1, 0), 0);
        Check.due("TABLE 3", x.switching(3, -1, 0), 2);
        Check.due("by seconds", x.switching(3, 0, 0), 0);
        Check.due("by seconds", x.switching(3, 0, 1), 1);
        Check.due("by seconds", x.switching(3, 1, 0), 86340);
        Check.due("by seconds", x.switching(3, 1, 1), 3);
        int[] begins = {0, 364, -1, -1};
        for (int s = 0; s < 4; s++) {
            Check.due("SEASON " + s, x.look(40 + s), begins[s]);
        }
        Check.due("SPECIAL days", x.look(15), 1);
        Check.due("tableOf(9)", x.tableOf(9), 5);
        Check.due("tableOf(0)", x.tableOf(0), 0);
        Check.due("364 is day 0 of the WEEK", x.tableOf(364), 1);
        Check.due("729 is day 1", x.tableOf(729), 2);
        x.season(2, 0);
        Check.due("TABLES of SEASON 2", x.tableOf(7), 0);
        Check.due("PRICES stay", x.look(30), 9);
        put(x, "price 100 0 7 1;");
        Check.due("calendar()", x.calendar(), 1);
        int[] prices = {100, 0, 7, 1};
        for (int t = 0; t < 4; t++) {
            Check.due("PRICE " + t, x.look(30 + t), prices[t]);
        }
        Check.due("SPECIAL days", x.look(15), 0);
        Check.due("an empty TEXT", x.calendar(), 0);
        Check.due("PRICES stay", x.look(32), 7);
    }

    private static void signsAndBlanks() {
        good("", 0);
        good("    ", 0);
        good("table0;", 1);
        good("  table  0  1 : 2  3 4:5 0 ;  table 1 ; ", 2);
        good("table 000 023:059 003;", 1);
        good("special364 7;", 1);
        good("season0 0 0 0 0 0 0 0 0;", 1);
        good("table 7 0:0 0 1:0 0 2:0 0 3:0 0 4:0 0 5:0 0;", 1);
    }

    private static void whatCantStandThere() {
        bad(";", 1, 0);
        bad("  7", 1, 2);
        bad("Table 1;", 1, 0);
        bad("tabl 1;", 1, 0);
        bad(" tables 1;", 1, 1);
        bad("table", 1, 5);
        bad("table  ", 1, 7);
        bad("table 1", 1, 7);
        bad("table 1 ", 1, 8);
        bad("table;", 1, 5);
        bad("table x;", 1, 6);
        bad("table 1 table 2;", 1, 8);
        bad("table 1,", 1, 7);
        bad("table 1 2;", 1, 9);
        bad("table 1 2 3;", 1, 10);
        bad("table 1 2:;", 1, 10);
        bad("table 1 2:3;", 1, 11);
        bad("table 1 2:003;", 1, 13);
        bad("table 1 2:3 1:", 1, 13);
        bad("season 0 0 0 0 0 0 0 0;", 1, 22);
        bad("season 0 0 0 0 0 0 0 0 0 0;", 1, 25);
        bad("special 1;", 1, 9);
        bad("special 1 1 1;", 1, 12);
        bad("price 1 2 3;", 1, 11);
        bad("price 1 2 3 4 5;", 1, 14);
        bad("price 1 -1 0 0;", 1, 8);
        bad("table 1;;", 1, 8);
        bad("table\t1;", 1, 5);
        bad("t", 1, 0);
        bad("table 1;" + (char) 0, 1, 8);
        bad("table 1;" + (char) 255, 1, 8);
        bad("pricez 1 1 1 1;", 1, 0);
        bad("rrice 1 1 1 1;", 1, 0);
    }

    private static void numbersThatCantBe() {
        bad("table 8;", 2, 6);
        bad("table 9;", 2, 6);
        bad("table 1 24:0 0;", 2, 8);
        bad("table 1 23:60 0;", 2, 11);
        bad("table 1 23:59 4;", 2, 14);
        bad("season 4 0 0 0 0 0 0 0 0;", 2, 7);
        bad("season 5 0 0 0 0 0 0 0 0;", 2, 7);
        bad("season 3 365 0 0 0 0 0 0 0;", 2, 9);
        bad("season 3 366 0 0 0 0 0 0 0;", 2, 9);
        bad("season 3 364 0 0 0 0 0 0 8;", 2, 25);
        bad("special 365 0;", 2, 8);
        bad("special 0 8;", 2, 10);
        bad("price 101 0 0 0;", 2, 6);
        bad("price 0 0 0 101;", 2, 12);
        bad("table 4294967296;", 2, 6);
        bad("table 99999999999999999999999999999999;", 2, 6);
        bad("table " + "0".repeat(200) + "18446744073709551616;", 2, 6);
    }

    private static void toldAlready() {
        bad("table 1;table 2;table 1;", 3, 22);
        bad("season 1 0 0 0 0 0 0 0 0;season 1 5 0 0 0 0 0 0 0;", 3, 32);
        bad("special 5 0;special 05 0;", 3, 20);
        bad("price 0 0 0 0; price 0 0 0 0;", 3, 15);
        bad("table 1 1:0 0 2:0 0 01:00 0;", 3, 23);
        good("table 1 1:0 0;table 2 1:0 0;", 2);
    }

    private static String specials(int n) {
        StringBuilder text = new StringBuilder();
        for (int k = 0; k < n; k++) {
            text.append("special").append(k).append(" 1;");
        }
        return text.toString();
    }

    private static void tooMany() {
        bad("table 0 0:0 0 1:0 0 2:0 0 3:0 0 4:0 0 5:0 0 6:0 0;", 4, 44);
        bad("table 0 0:0 0 1:0 0 2:0 0 3:0 0 4:0 0 5:0 0 5:0 0;", 4, 44);
        bad("table 0 0:0 0 1:0 0 2:0 0 3:0 0 4:0 0 5:0 0 6;", 4, 44);
        bad("table 0 0:0 0 1:0 0 2:0 0 3:0 0 4:0 0 5:0 0 24:0 0;", 2, 44);
        good(specials(16), 16);
        String seventeen = specials(17);
        bad(seventeen, 4, specials(16).length());
        bad(specials(16) + " special", 4, specials(16).length() + 1);
    }

    private static void theFirstByItsPlace() {
        bad("table 8 x;", 2, 6);
        bad("table 1 1:0 0 1:0 9 ?", 3, 16);
        bad("price 0 0 0 0;price ?", 3, 14);
        bad("special 1 1;special 1 9;", 3, 20);
    }

    // What ends just with THE TAPE's last byte.
    private static void threeHundredBytes() {
        String[] ends = {"table", "table 1", "table 1 2", "table 1 2:", "table 1 2:3", "table 1 2:3 1",
            "season", "season 1", "season 1 2", "season 1 2 3", "special", "special 1", "special 1 2",
            "price", "price 1", "price 1 2 3 4"};
        for (String end : ends) {
            bad(" ".repeat(300 - end.length()) + end, 1, 300);
            good(" ".repeat(299 - "table 1".length()) + "table 1;", 1);
        }
        bad(" ".repeat(295) + "tabla", 1, 295);
        bad(" ".repeat(292) + "table 99", 2, 298);
        good(" ".repeat(300), 0);
        good("table 1 ;" + " ".repeat(291), 1);
    }

    private static void allStaysWithAFault() {
        WorkMeter x = new WorkMeter();
        x.table(2, 7, 3);
        x.special(3, 2);
        x.set(11, 4);
        put(x, "table 1 1:0 1;price 9 9 9 9;special 8 1;table 1;");
        Check.due("calendar()", x.calendar(), -1);
        Check.due("TABLE 2", x.switching(2, 0, 1), 3);
        Check.due("TABLE 1", x.switching(1, -1, 0), 0);
        Check.due("SPECIAL day", x.tableOf(3), 2);
        Check.due("SPECIAL day", x.tableOf(8), 0);
        Check.due("PRICE", x.look(31), 4);
        Check.due("fault(0)", x.fault(0), 3);
        put(x, "table 1;");
        Check.due("fault(0) of the latest calendar()", x.fault(0), 3);
        Check.due("calendar()", x.calendar(), 1);
        Check.due("fault(0)", x.fault(0), 0);
        Check.due("fault(1)", x.fault(1), -1);
    }

    private static void sealed() {
        WorkMeter x = new WorkMeter();
        put(x, "?");
        x.calendar();
        x.table(0, 9, 1);
        x.seal(1);
        put(x, "table 1;");
        Check.due("look(57)", x.look(57), 8);
        Check.due("calendar()", x.calendar(), -1);
        Check.due("no FAULT", x.fault(0), 0);
        Check.due("no place", x.fault(1), -1);
        Check.due("THE TAPE is empty", x.look(57), 0);
        Check.due("the CALENDAR stays", x.switching(0, -1, 0), 1);
        Check.due("REFUSED", x.look(56), 1);
    }
}
