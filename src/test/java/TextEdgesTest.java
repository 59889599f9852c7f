/** The edges of the CALENDAR's TEXT and of THE TAPE (part 2; promises 8, 9, 10, 11). */
public final class TextEdgesTest {
    private static final String WHOLE = "table 1 6:30 2 22:0 0;season 2 90 1 2 3 4 5 6 7;special 12 3;price 1 20 3 100;";
    // A text with a gap, the greatest number that can stand there, a question that it answers then.
    private static final String[][] NUMBERS = {
        {"table #;", "7", ""}, {"table 1 #:0 0;", "23", "switching(1, 0, 0) 82800"}, {"table 1 0:# 0;", "59", "switching(1, 0, 0) 3540"},
        {"table 1 0:0 #;", "3", "switching(1, 0, 1) 3"}, {"season # 9 0 0 0 0 0 0 0;", "3", "look(43) 9"},
        {"season 1 # 0 0 0 0 0 0 0;", "364", "look(41) 364"}, {"season 0 0 # 0 0 0 0 0 0;", "7", "tableOf(0) 7"},
        {"season 0 0 0 # 0 0 0 0 0;", "7", "tableOf(1) 7"}, {"season 0 0 0 0 # 0 0 0 0;", "7", "tableOf(2) 7"},
        {"season 0 0 0 0 0 # 0 0 0;", "7", "tableOf(3) 7"}, {"season 0 0 0 0 0 0 # 0 0;", "7", "tableOf(4) 7"},
        {"season 0 0 0 0 0 0 0 # 0;", "7", "tableOf(5) 7"}, {"season 0 0 0 0 0 0 0 0 #;", "7", "tableOf(6) 7"},
        {"special # 5;", "364", "tableOf(364) 5"}, {"special 3 #;", "7", "tableOf(3) 7"}, {"price # 0 0 0;", "100", "look(30) 100"},
        {"price 0 # 0 0;", "100", "look(31) 100"}, {"price 0 0 # 0;", "100", "look(32) 100"}, {"price 0 0 0 #;", "100", "look(33) 100"}};

    private TextEdgesTest() {
    }

    public static void main(String[] args) {
        numbersOnBothSides();
        eachEnd();
        eachSignSpoilt();
        blanks();
        words();
        lines();
        toldAlready();
        sevenSwitches();
        seventeenSpecials();
        atOnePlaceTheLeast();
        theFirstByItsPlace();
        whatIsNotTold();
        theTape();
        faults();
        Check.finish();
    }

    private static Run read(String text, int answer, int fault, int place) {
        return Run.of("\"" + text + "\"").tape(text).go("look(57) " + text.length(), "calendar() " + answer,
            "fault(0) " + fault + "; fault(1) " + place + "; look(57) 0");
    }

    private static Run good(String text, int lines) {
        return read(text, lines, 0, -1);
    }

    private static void bad(String text, int fault, int place) {
        read(text, -1, fault, place);
    }

    private static void numbersOnBothSides() {
        for (String[] n : NUMBERS) {
            int place = n[0].indexOf('#');
            int most = Integer.parseInt(n[1]);
            good(n[0].replace("#", "0"), 1);
            good(n[0].replace("#", n[1]), 1).go(n[2]);
            good(n[0].replace("#", "000000000000" + n[1]), 1).go(n[2]);
            bad(n[0].replace("#", "" + (most + 1)), 2, place);
            bad(n[0].replace("#", "" + (most + 2)), 2, place);
            bad(n[0].replace("#", "2147483648"), 2, place);
            bad(n[0].replace("#", "4294967296"), 2, place);
            bad(n[0].replace("#", "18446744073709551616"), 2, place);
            bad(n[0].replace("#", n[1] + "0"), 2, place);
            bad(n[0].replace("#", "-1"), 1, place);
            bad(n[0].replace("#", "+1"), 1, place);
            bad(n[0].replace("#", "x"), 1, place);
            bad(n[0].replace("#", ":"), 1, place);
            // Where an hour may stand the line may end too.
            if (!n[0].contains("#:")) {
                bad(n[0].replace("#", ";"), 1, place);
            }
        }
    }

    // Each beginning of a TEXT: whole lines, or what is missing at its end.
    private static void eachEnd() {
        int lines = 0;
        int wordAt = 0;
        for (int n = 0; n <= WHOLE.length(); n++) {
            String text = WHOLE.substring(0, n);
            if (n > 0 && WHOLE.charAt(n - 1) == ';') {
                lines++;
                wordAt = n;
            }
            boolean wordIsCut = n > wordAt && WHOLE.charAt(n - 1) >= 'a' && n < WHOLE.length() && WHOLE.charAt(n) >= 'a';
            if (n == wordAt) {
                good(text, lines);
                good(text + "  ", lines);
            } else {
                bad(text, 1, wordIsCut ? wordAt : n);
                bad(text + "  ", 1, wordIsCut ? wordAt : n + 2);
            }
        }
    }

    // Signs that can stand nowhere, on each place: a word that they cut is none.
    private static void eachSignSpoilt() {
        int wordAt = 0;
        for (int n = 0; n < WHOLE.length(); n++) {
            if (n > 0 && WHOLE.charAt(n - 1) == ';') {
                wordAt = n;
            }
            boolean inWord = WHOLE.charAt(n) >= 'a';
            for (char sign : new char[] {0, 9, 10, 31, 33, 47, 60, 65, 84, 90, 96, 123, 127, 128, 160, 255}) {
                bad(WHOLE.substring(0, n) + sign + WHOLE.substring(n + 1), 1, inWord ? wordAt : n);
            }
        }
    }

    private static void blanks() {
        good(" table  1  6 : 30  2  22 : 0  0 ; season  2  90  1  2  3  4  5  6  7 ; special  12  3 ; price  1  20  3  100 ;  ", 4)
            .go("switching(1, NONE, 0) 2; switching(1, 0, 0) 23400; look(42) 90; tableOf(12) 3; look(33) 100");
        good("table1 6:30 2 22:0 0;season2 90 1 2 3 4 5 6 7;special12 3;price1 20 3 100;", 4)
            .go("switching(1, NONE, 0) 2; switching(1, 0, 0) 23400; look(42) 90; tableOf(12) 3; look(33) 100");
        good(" ", 0);
        good(" ".repeat(300), 0);
        good("table 1;" + " ".repeat(292), 1);
        good(" ".repeat(292) + "table 1;", 1);
        bad("ta ble 1;", 1, 0);
        bad("table 1 1 2:30 0;", 1, 10);
        bad("table 1 12:3 0 0;", 1, 16);
        bad("price 10 0 0 0 0;", 1, 15);
    }

    private static void words() {
        for (String word : new String[] {"table", "season", "special", "price"}) {
            String behind = word.equals("table") ? " 1;" : word.equals("season") ? " 1 0 0 0 0 0 0 0 0;"
                : word.equals("special") ? " 1 1;" : " 1 1 1 1;";
            good(word + behind, 1);
            bad(" " + word + "s" + behind, 1, 1);
            bad("  x" + word + behind, 1, 2);
            bad(word.substring(0, word.length() - 1) + behind, 1, 0);
            bad(word.substring(1) + behind, 1, 0);
            bad(word.toUpperCase() + behind, 1, 0);
            bad(word + word + behind, 1, 0);
            bad(word + " " + word + behind, 1, word.length() + 1);
            if (!word.equals("price")) {
                bad(word + behind + word, 1, (word + behind + word).length());
            }
        }
        bad("tablez 1;", 1, 0);
        bad("tablea 1;", 1, 0);
        bad("ztable 1;", 1, 0);
        bad("rable 1;", 1, 0);
        bad("tabld 1;", 1, 0);
        bad("a", 1, 0);
        bad("1 table;", 1, 0);
        bad(": table 1;", 1, 0);
        bad("; table 1;", 1, 0);
        bad("table 1;;table 2;", 1, 8);
        bad("table 1; ;", 1, 9);
        bad("table 1 table 2;", 1, 8);
        bad("table 1 6:30 2 season;", 1, 15);
    }

    private static void lines() {
        good("", 0);
        good("table 0;", 1);
        good("table0;table1;table2;table3;table4;table5;table6;table7;", 8);
        good("season0 0 0 0 0 0 0 0 0;season1 0 0 0 0 0 0 0 0;season2 0 0 0 0 0 0 0 0;season3 0 0 0 0 0 0 0 0;", 4)
            .go("look(40) 0; look(41) 0; look(42) 0; look(43) 0");
        good(specials(16) + "table0;price0 0 0 0;season0 0 0 0 0 0 0 0 0;table7;", 20).go("look(15) 16");
        good("price 0 0 0 0;", 1).go("look(30) 0");
        good("table 7;table 0 0:0 1;", 2).go("switching(7, NONE, 0) 0; switching(0, NONE, 0) 1");
    }

    private static void toldAlready() {
        for (int t = 0; t < 8; t++) {
            bad("table " + t + ";table  " + t + ";", 3, 15);
            good("table " + t + ";table " + (t + 1) % 8 + ";", 2);
        }
        for (int s = 0; s < 4; s++) {
            bad("season " + s + " 0 0 0 0 0 0 0 0;season " + s + " 1 0 0 0 0 0 0 0;", 3, 32);
            good("season " + s + " 5 0 0 0 0 0 0 0;season " + (s + 1) % 4 + " 5 0 0 0 0 0 0 0;", 2);
        }
        for (int d : new int[] {0, 31, 32, 63, 64, 364}) {
            String line = "special " + d + " 1;";
            bad(line + "special 1 1;" + line, 3, line.length() + 20);
            bad(line + "special 000" + d + " 2;", 3, line.length() + 8);
            good(line + "special " + (d + 364) % 365 + " 1;", 2);
        }
        bad("table 1;table 2;table 3;table 1;", 3, 30);
        bad("season 1 0 0 0 0 0 0 0 0;season 2 0 0 0 0 0 0 0 0;season 1 0 0 0 0 0 0 0 0;", 3, 57);
        bad("price 1 1 1 1;price 1 1 1 1;", 3, 14);
        bad("price 1 1 1 1;table 1; price", 3, 23);
        bad("table 1 1:0 0 1:0 0;", 3, 16);
        bad("table 1 1:00 0 01: 000 1;", 3, 19);
        bad("table 1 0:0 0 1:0 0 2:0 0 3:0 0 4:0 0 4:0 0;", 3, 40);
        good("table 1 1:0 0 1:1 0 0:1 0;table 2 1:0 0;", 2);
    }

    private static void sevenSwitches() {
        String six = "table 0 0:0 0 1:0 0 2:0 0 3:0 0 4:0 0 5:0 0";
        good(six + ";", 1).go("switching(0, NONE, 0) 6");
        good(six + ";table 1 0:0 0;", 2);
        bad(six + " 6:0 0;", 4, 44);
        bad(six + " 5:0 0;", 4, 44);
        bad(six + "   6;", 4, 46);
        bad(six + " 6", 4, 44);
        bad(six + " 6:99 9;", 4, 44);
        bad(six + " x", 1, 44);
        bad(six + ":", 1, 43);
        bad(six, 1, 43);
    }

    private static String specials(int n) {
        StringBuilder text = new StringBuilder();
        for (int k = 0; k < n; k++) {
            text.append("special").append(k).append(" 1;");
        }
        return text.toString();
    }

    private static void seventeenSpecials() {
        String sixteen = specials(16);
        int n = sixteen.length();
        good(sixteen, 16).go("look(15) 16");
        bad(sixteen + "special16 1;", 4, n);
        bad(sixteen + "  special16 1;", 4, n + 2);
        bad(sixteen + "special", 4, n);
        bad(sixteen + "special 0 1;", 4, n);
        bad(sixteen + "special 365 1;", 4, n);
        bad(sixteen + "specials", 1, n);
        good(sixteen + "table 1;", 17);
    }

    private static void atOnePlaceTheLeast() {
        String six = "table 0 0:0 0 1:0 0 2:0 0 3:0 0 4:0 0 5:0 0";
        bad(six + " 24:0 0;", 2, 44);
        bad(six + " 23:0 0;", 4, 44);
        bad("table 1;table 8;", 2, 14);
        bad("special 1 1;special 365 1;", 2, 20);
        bad("table 1 0:0 0 0:60 0;", 2, 16);
        bad("season 1 0 0 0 0 0 0 0 0;season 4 0 0 0 0 0 0 0 0;", 2, 32);
    }

    private static void theFirstByItsPlace() {
        bad("table 8 x", 2, 6);
        bad("table 1;table 1 99:99 9;", 3, 14);
        bad("season 1 0 0 0 0 0 0 0 0;season 1 999;", 3, 32);
        bad("special 1 1;special 1 9;", 3, 20);
        bad("special 1 1;special 1", 3, 20);
        bad("price 1 1 1 1;price 101", 3, 14);
        bad("table 1 0:0 0 0:0 9;", 3, 16);
        bad("table 1 0:0 9 0:0 0;", 2, 12);
        bad("price 101 x", 2, 6);
        bad("table 1 24 x", 2, 8);
        bad("? table 8", 1, 0);
        String[] lines = {"table # #:# # #:# #;", "season # # # # # # # # #;", "special # #;", "price # # # #;"};
        for (String line : lines) {
            String begun = line;
            for (int place = begun.indexOf('#'); place >= 0; place = begun.indexOf('#')) {
                bad(begun.replace("#", "999"), 2, place);
                bad(begun.substring(0, place) + "x" + begun.substring(place + 1).replace("#", "999"), 1, place);
                bad(begun.substring(0, place) + "999" + begun.substring(place + 1).replace("#", "x"), 2, place);
                bad(begun.substring(0, place) + ": " + begun.substring(place + 1).replace("#", "7"), 1, place);
                begun = begun.substring(0, place) + (place > 12 ? "2" : "1") + begun.substring(place + 1);
            }
        }
        bad("table 1 2 3;", 1, 10);
        bad("table 1 2 3:4 5;", 1, 10);
        bad("table 1 2;3:99 9;", 1, 9);
    }

    private static final String ALL_TOLD = "table(0, 5, 1); table(7, 5, 1); season(0, 9); season(1, 1); season(2, 2); season(3, 3);"
        + "week(0, 0, 1); week(1, 1, 1); week(2, 2, 1); week(3, 3, 1); special(0, 1); special(200, 1);"
        + "set(10, 1); set(11, 2); set(12, 3); set(13, 4)";

    private static void whatIsNotTold() {
        Run.of("What is not told in it: an empty TEXT", ALL_TOLD, "calendar() 0; switching(0, NONE, 0) 0",
            "switching(7, NONE, 0) 0",
            "look(40) 0; look(41) NONE; look(42) NONE; look(43) NONE; look(15) 0; tableOf(0) 0; tableOf(200) 0",
            "look(30) 1; look(31) 2; look(32) 3; look(33) 4; season(1, 1); season(2, 2); season(3, 3); tableOf(1) 0",
            "tableOf(2) 0",
            "tableOf(3) 0; tableOf(7) 0");
        Run.of("SEASON 0 is from 0 on", ALL_TOLD).tape("season 1 5 1 2 3 4 5 6 7;table 7 0:0 3;")
            .go("calendar() 2; look(40) 0; look(41) 5; look(42) NONE; switching(7, 0, 0) 0; switching(7, 0, 1) 3",
            "tableOf(5) 6")
            .go("tableOf(4) 0; switching(7, NONE, 0) 1; look(33) 4");
        Run.of("SEASON 0 told", ALL_TOLD).tape("season 0 364 1 1 1 1 1 1 1;").go("calendar() 1; look(40) 364",
            "tableOf(0) 1");
        Run.of("PRICES told", ALL_TOLD).tape("price 0 100 50 0;")
            .go("calendar() 1; look(30) 0; look(31) 100; look(32) 50; look(33) 0; look(15) 0; switching(0, NONE, 0) 0");
        Run.of("NONE, and all stays, if there is a FAULT", ALL_TOLD).tape("price 9 9 9 9;table 1 0:0 1;special 3 3;?")
            .go("calendar() NONE; look(30) 1; switching(1, NONE, 0) 0; switching(0, NONE, 0) 1; look(15) 2",
            "tableOf(3) 1; look(40) 9")
            .go("look(43) 3; tableOf(200) 1");
        // What a TEXT with a FAULT has told is gone with it.
        Run.of("the next TEXT begins anew").tape("price 9 9 9 9;table 1 0:0 1;season 1 1 1 1 1 1 1 1 1;special 3 3;?")
            .go("calendar() NONE").tape("table 1;special 3 4;")
            .go("calendar() 2; switching(1, NONE, 0) 0; look(30) 0; look(41) NONE; tableOf(3) 4; look(15) 1",
            "season(1, 1); tableOf(1) 0");
        Run twice = Run.of("told in a TEXT ahead is not told already");
        for (int k = 0; k < 2; k++) {
            twice.tape("table 7 0:0 1;season 3 1 1 1 1 1 1 1 1;season 0 0 0 0 0 0 0 0 0;special 3 3;price 9 9 9 9;")
                .go("calendar() 5; fault(0) 0; switching(7, NONE, 0) 1; look(15) 1; look(43) 1");
        }
    }

    private static void theTape() {
        Run run = Run.of("Twenty bytes come behind THE TAPE: how many it has");
        for (int k = 1; k <= 15; k++) {
            run.go("feed(MAX, MIN, -1, 0, 1) " + 20 * k + "; look(57) " + 20 * k);
        }
        run.go("feed(0, 0, 0, 0, 0) NONE; look(57) 300; end(301) 0; end(-1) 0; end(MAX) 0; end(MIN) 0; look(57) 300");
        run.go("end(300) 1; look(57) 300; end(281) 1; feed(0, 0, 0, 0, 0) NONE; look(57) 281; end(282) 0; end(280) 1");
        run.go("feed(0, 0, 0, 0, 0) 300; end(299) 1; feed(0, 0, 0, 0, 0) NONE; end(0) 1; look(57) 0; end(0) 1",
            "end(1) 0");
        run.go("feed(0, 0, 0, 0, 0) 20; end(1) 1; feed(0, 0, 0, 0, 0) 21; end(21) 1; end(22) 0; end(-1) 0",
            "look(57) 21");
        // "tabl" "e 1 " "0:30" " 2; " "    ", then a cut and a byte that is fed anew behind it.
        Run.of("of each number the highest first", "feed(1952539244, 1696608544, 809120560, 540162848, 538976288) 20",
            "calendar() 1; switching(1, 0, 0) 1800; switching(1, 0, 1) 2");
        Run.of("THE TAPE has its first n bytes alone").tape("table 1;xyz").go("end(8) 1",
            "calendar() 1").tape("table 2;xyz")
            .go("end(8) 1").tape("table 3;").go("look(57) 16; calendar() 2");
        Run.of("bytes that were cut off do not come again").tape("table 1 0:0 1;").go("end(7) 1").tape(" 2:0 3;")
            .go("calendar() 1; switching(1, NONE, 0) 1; switching(1, 0, 0) 7200");
        Run.of("bytes above 127 are none below 0", "feed(-1, -1, -1, -1, -1) 20; calendar() NONE; fault(0) 1",
            "fault(1) 0");
        good("table 1;" + " ".repeat(292), 1);
        bad("table 1;" + " ".repeat(291) + "t", 1, 299);
        bad(" ".repeat(293) + "table 1", 1, 300);
        bad(" ".repeat(299) + ";", 1, 299);
    }

    private static void faults() {
        Run.of("Of the latest calendar() what 0 FAULT (0 without), 1 its place (NONE)", "fault(0) 0; fault(1) NONE",
            "fault(2) NONE",
            "fault(-1) NONE; fault(MAX) NONE; fault(MIN) NONE; feed(0, 0, 0, 0, 0); fault(0) 0; calendar() NONE",
            "fault(0) 1; fault(1) 0",
            "fault(2) NONE; fault(-1) NONE; look(57) 0; feed(0, 0, 0, 0, 0); end(0); fault(0) 1; calendar() 0",
            "fault(0) 0; fault(1) NONE");
    }
}
