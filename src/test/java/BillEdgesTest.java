/** The edges of BILLS and MONEY (parts 3 and 4; promises 22, 35, 36, 37). */
public final class BillEdgesTest {
    private static final String METER = "phases(1, 4); set(4, 60); set(5, 1); set(1, 1)";

    private BillEdgesTest() {
    }

    public static void main(String[] args) {
        emptyAndFull();
        sinceTheOneAhead();
        allRegisters();
        greatestDemands();
        money();
        moneyOfDemand();
        excess();
        lowestTerms();
        asTheyAreNow();
        billsThatThereAre();
        Check.finish();
    }

    private static void emptyAndFull() {
        Run run = Run.of("the latest 6", METER, "look(11) 0; bills(0, 0) NONE; billed(0, 0, 0) NONE; money(0, 0) NONE",
            "money(0, 1) NONE; power(1, 1, 0)");
        for (int k = 1; k <= 8; k++) {
            int kept = Math.min(k, 6);
            run.go("again(" + k + "); bill() " + k + "; look(11) " + k + "; billed(0, 0, 0) " + (k == 1 ? 2 : k));
            run.go("bills(0, 0) " + (1 + k * (k + 1) / 2) + "; bills(" + (kept - 1) + ", 0) " + timeOf(k - kept + 1));
            run.go("bills(" + kept + ", 0) NONE; billed(" + kept + ", 0, 0) NONE; money(" + kept + ", 0) NONE",
            "money(" + kept + ", 1) NONE");
        }
        for (int i = 0; i < 6; i++) {
            run.go("billed(" + i + ", 0, 0) " + (8 - i) + "; billed(" + i + ", 0, NONE) " + (8 - i) + "",
            "bills(" + i + ", 0) " + timeOf(8 - i));
        }
    }

    private static int timeOf(int bill) {
        return 1 + bill * (bill + 1) / 2;
    }

    private static void sinceTheOneAhead() {
        Run.of("the first of all: since ever", METER, "power(1, 5, 0); again(9); bill() 1; billed(0, 0, 0) 50",
            "bill() 2; billed(0, 0, 0) 0; billed(1, 0, 0) 50",
            "again(1); billed(0, 0, 0) 0; raw(0, 0) 55; bill() 3; billed(0, 0, 0) 5");
        Run.of("of the oldest that is kept: since the one that is not kept any more", METER, "power(1, 5, 0); bill()",
            "again(2); bill(); again(3); bill()",
            "bill(); bill(); bill() 6; billed(5, 0, 0) 5; bill() 7; billed(5, 0, 0) 10; bill() 8; billed(5, 0, 0) 15",
            "bill() 9; billed(5, 0, 0) 0");
    }

    private static void allRegisters() {
        Run run = Run.of("RAW of a REGISTER and TARIFF (NONE: TOTAL)", METER, "table(0, 4, 3); power(1, 3, 4)",
            "power(1, -30, 40); power(1, -5, -12)",
            "power(1, 8, -15); bill(); power(1, 3, 4); power(1, -30, 40); power(1, -5, -12); power(1, 8, -15)",
            "again(1); bill()");
        long[] first = {11, 35, 4, 40, 12, 15, 85};
        long[] second = {19, 35, 4, 40, 12, 30, 102};
        for (int r = 0; r < 7; r++) {
            run.go("billed(1, " + r + ", 0) " + first[r] + "; billed(1, " + r + ", 3) 0",
            "billed(1, " + r + ", NONE) " + first[r]);
            run.go("billed(0, " + r + ", 0) 0; billed(0, " + r + ", 3) " + second[r] + "",
            "billed(0, " + r + ", NONE) " + second[r]);
            run.go("billed(0, " + r + ", 4) NONE; billed(0, " + r + ", -2) NONE");
        }
        run.go("billed(0, 7, 0) NONE; billed(0, -1, 0) NONE; billed(0, MAX, 0) NONE; billed(0, 0, MIN) NONE");
    }

    private static void greatestDemands() {
        Run.of("GREATEST DEMANDS are none then", METER, "table(0, 60, 2); power(1, 5, 0); again(59); again(60)",
            "bill() 1; bills(0, 1) 300; bills(0, 2) NONE",
            "bills(0, 3) 300; bills(0, 4) NONE; greatest(0, 0) NONE; greatest(2, 0) NONE; greatest(2, 1) NONE",
            "demand(0) 300; bill() 2",
            "bills(0, 1) NONE; bills(0, 3) NONE; bills(1, 3) 300; power(1, 1, 0); again(59); greatest(2, 0) 60",
            "greatest(2, 1) 180; would(1, 3) 60",
            "bill(); bills(0, 3) 60; bills(0, 1) NONE");
        Run.of("1 + t GREATEST DEMAND of TARIFF t", METER, "table(0, 0, 3); power(1, 5, 0); again(59); bill()",
            "bills(0, 0) 60; bills(0, 1) NONE; bills(0, 2) NONE",
            "bills(0, 3) NONE; bills(0, 4) 300; bills(0, 5) NONE; table(0, 0, 1); again(60); bill(); bills(0, 2) 300",
            "bills(0, 4) NONE; bills(1, 4) 300");
        Run.of("the BLOCK that goes on is not cut", METER, "power(1, 5, 0); again(29); bill(); look(10) 0",
            "block(3) 30; again(30); greatest(0, 0) 300; load(0, 5) 0");
    }

    private static void money() {
        Run.of("IMPORT of each TARIFF times its PRICE", METER, "table(0, 1, 1); table(0, 2, 2); table(0, 3, 3)",
            "power(1, 1, 0); power(1, 10, 0); power(1, 100, 0)",
            "power(2, 500, 0); bill(); money(0, 0) 0; money(0, 1) 1; set(10, 1); money(0, 0) 1; set(11, 2)",
            "money(0, 0) 21; set(12, 3); money(0, 0) 321",
            "set(13, 100); money(0, 0) 100321; money(0, 1) 1; set(10, 100); money(0, 0) 100420");
        Run.of("of what came since the one ahead", METER, "set(10, 1); power(1, 7, 0); bill(); power(1, 5, 0); bill()",
            "money(0, 0) 5; money(1, 0) 7; bill()",
            "money(0, 0) 0; money(0, 1) 1; money(1, 0) 5; money(2, 0) 7");
    }

    private static void moneyOfDemand() {
        Run.of("the greatest of its GREATEST DEMANDS (none: 0) times DEMAND's PRICE", METER, "table(0, 60, 1)",
            "table(0, 120, 2); set(20, 1); power(1, 5, 0)",
            "bill(); money(0, 0) 0; again(59); power(1, 9, 0); again(59); power(1, 2, 0); again(59); bill()",
            "bills(0, 1) 300; bills(0, 2) 540; bills(0, 3) 120",
            "money(0, 0) 540; set(20, 100); money(0, 0) 54000; set(20, 0); money(0, 0) 0; bill(); set(20, 100)",
            "money(0, 0) 0; money(1, 0) 54000");
    }

    // REACTIVE 10 and IMPORT 25: at LIMIT 40 there is just no EXCESS.
    private static void excess() {
        Run.of("0 at least", METER, "set(22, 100); power(1, 25, 10); bill(); money(0, 0) 0; set(21, 41)",
            "money(0, 0) 0; set(21, 39); money(0, 0) 25",
            "set(21, 0); money(0, 0) 1000; set(21, 200); money(0, 0) 0; set(10, 1); money(0, 0) 25");
        Run.of("EXCESS's PRICE by 100", METER, "set(22, 1); set(21, 0); power(1, 0, 1); bill(); money(0, 0) 1",
            "money(0, 1) 1; set(22, 100); money(0, 0) 100");
        Run.of("hundredths are not cut", METER, "set(22, 1); set(21, 39); power(1, 25, 10); bill(); money(0, 0) 1",
            "money(0, 1) 4; set(22, 3); money(0, 0) 3; money(0, 1) 4");
        Run.of("QUADRANTS 1 and 4 together, not 2 and 3", METER, "set(22, 100); set(21, 0); power(1, 1, 2)",
            "power(1, -1, 30); power(1, -1, -400); power(1, 1, -5)",
            "bill(); money(0, 0) 700; set(21, 100); money(0, 0) 500; set(21, 200); money(0, 0) 300");
        Run.of("IMPORT TOTAL, of all TARIFFS", METER, "table(0, 1, 3); set(22, 100); set(21, 100); power(1, 5, 0)",
            "power(1, 5, 12); bill(); money(0, 0) 200");
    }

    private static void lowestTerms() {
        Run.of("all together by UNIT: a fraction in lowest terms", "phases(1, 4); set(1, 12); set(10, 1)",
            "power(1, 8, 0); bill(); money(0, 0) 2; money(0, 1) 3; again(2)",
            "bill(); money(0, 0) 4; money(0, 1) 3; set(10, 3); money(0, 0) 4; money(0, 1) 1; set(10, 0)",
            "money(0, 0) 0; money(0, 1) 1");
        Run.of("UNIT 1000000", "phases(1, 4); set(1, 1000000); set(10, 1); power(1, 1, 0); bill(); money(0, 0) 1",
            "money(0, 1) 1000000; power(2, 500, 0); bill()",
            "money(0, 0) 1; money(0, 1) 1000");
        Run.of("UNIT 1000000 and hundredths", "phases(1, 4); set(1, 1000000); set(22, 1); set(21, 39)",
            "power(1, 25, 10); bill(); money(0, 0) 1; money(0, 1) 4000000");
        Run.of("the greatest there can be", "phases(3, 16); set(1, 1); set(10, 100); set(20, 100); set(22, 100)",
            "set(21, 0); set(4, 60)",
            "samples(" + "500, 500, ".repeat(47) + "500, 500); again(900); again(900); bill(); raw(0, 0) 21612000000",
            "raw(2, 0) 21612000000",
            "greatest(0, 0) NONE; bills(0, 1) 2160000000; money(0, 0) 4538400000000; money(0, 1) 1");
    }

    private static void asTheyAreNow() {
        Run.of("PRICES, LIMIT, UNIT as they are now", METER, "set(10, 1); power(1, 10, 10); bill(); money(0, 0) 10",
            "set(10, 2); money(0, 0) 20; set(22, 100)",
            "money(0, 0) 620; set(21, 50); money(0, 0) 520").tape("price 5 0 0 0;").go("calendar() 1; money(0, 0) 550");
        Run.of("UNIT told behind a BILL", "set(10, 1); bill(); money(0, 1) 1; set(1, 7) 1; money(0, 0) 0",
            "money(0, 1) 1");
    }

    private static void billsThatThereAre() {
        Run.of("NONE if there is none such, or another what", METER, "power(1, 5, 0); bill(); bills(0, 0) 1",
            "bills(0, 4) NONE; bills(0, 5) NONE; bills(0, -1) NONE",
            "bills(1, 0) NONE; bills(-1, 0) NONE; bills(MAX, 0) NONE; bills(MIN, 0) NONE; bills(0, MAX) NONE",
            "money(0, 2) NONE; money(0, -1) NONE",
            "money(1, 0) NONE; money(-1, 0) NONE; money(MAX, 0) NONE; money(MIN, 1) NONE; money(0, MAX) NONE",
            "billed(1, 0, 0) NONE; billed(-1, 0, 0) NONE",
            "billed(6, 0, 0) NONE; billed(MAX, 0, 0) NONE; billed(MIN, 0, 0) NONE");
    }
}
