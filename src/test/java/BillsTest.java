/** Promises 22, 35, 36, 37: BILLS and MONEY. */
public final class BillsTest {
    private BillsTest() {
    }

    public static void main(String[] args) {
        sinceTheOneAhead();
        sixAreKept();
        greatestDemands();
        money();
        excessIsNeverLess();
        wrongOnes();
        Check.finish();
    }

    private static WorkMeter meter() {
        WorkMeter x = new WorkMeter();
        x.set(4, 60);
        x.set(5, 1);
        x.phases(1, 4);
        return x;
    }

    private static void sinceTheOneAhead() {
        WorkMeter x = meter();
        SamplesTest.period4(x, 100, 10, 5);
        Check.due("bill()", x.bill(), 1);
        x.table(0, 3, 2);
        x.again(5);
        Check.due("bill()", x.bill(), 2);
        Check.due("the first of all", x.billed(1, 0, -1), 2000);
        Check.due("TOTAL", x.billed(0, 0, -1), 10000);
        Check.due("TARIFF 0", x.billed(0, 0, 0), 4000);
        Check.due("TARIFF 2", x.billed(0, 0, 2), 6000);
        Check.due("TARIFF 1", x.billed(0, 0, 1), 0);
        Check.due("REACTIVE", x.billed(0, 2, -1), 5000);
        Check.due("APPARENT", x.billed(0, 6, 2), 3 * 2236);
        Check.due("RAW goes on", x.raw(0, -1), 12000);
        Check.due("look(11)", x.look(11), 2);
        Check.due("TIME", x.bills(0, 0), 6);
        Check.due("TIME", x.bills(1, 0), 1);
        Check.due("nothing came", x.bill(), 3);
        Check.due("nothing came", x.billed(0, 0, -1), 0);
    }

    private static void sixAreKept() {
        WorkMeter x = meter();
        SamplesTest.period4(x, 100, 10, 0);
        for (int k = 1; k <= 8; k++) {
            x.again(k);
            Check.due("bill()", x.bill(), k);
        }
        for (int i = 0; i < 6; i++) {
            Check.due("billed(" + i + ")", x.billed(i, 0, 0), 2000L * (8 - i));
        }
        Check.due("the seventh", x.billed(6, 0, 0), -1);
        Check.due("the seventh", x.bills(6, 0), -1);
        Check.due("the seventh", x.money(6, 0), -1);
    }

    private static void greatestDemands() {
        WorkMeter x = meter();
        SamplesTest.period4(x, 100, 10, 0);
        x.table(0, 100, 3);
        x.again(59);
        x.again(60);
        x.bill();
        long[] due = {120, 120000, -1, -1, 120000};
        for (int what = 0; what < due.length; what++) {
            Check.due("bills(0, " + what + ")", x.bills(0, what), due[what]);
        }
        Check.due("none then", x.greatest(0, 0), -1);
        Check.due("none then", x.greatest(3, 1), -1);
        Check.due("the latest DEMAND stays", x.demand(0), 120000);
        Check.due("bills(0, 5)", x.bills(0, 5), -1);
        Check.due("bills(0, -1)", x.bills(0, -1), -1);
        x.again(60);
        Check.due("anew", x.greatest(3, 1), 180);
        Check.due("would", x.would(1, 3), 120000);
    }

    private static void money() {
        WorkMeter x = meter();
        x.set(1, 900);
        SamplesTest.period4(x, 100, 10, 5);
        x.table(0, 60, 1);
        x.again(119);
        x.bill();
        Check.due("no PRICE: 0", x.money(0, 0), 0);
        Check.due("by 1", x.money(0, 1), 1);
        x.set(10, 3);
        x.set(11, 7);
        // 120000 * 3 + 120000 * 7 by 900.
        Check.due("above", x.money(0, 0), 4000);
        Check.due("below", x.money(0, 1), 3);
        x.set(20, 2);
        Check.due("DEMAND: 240000 more", x.money(0, 0), 1440000 / 900);
        Check.due("below", x.money(0, 1), 1);
        x.set(22, 1);
        // EXCESS: 120000 * 100 - 240000 * 40 = 2400000, by 100: 24000 more.
        Check.due("EXCESS", x.money(0, 0), 4880);
        Check.due("below", x.money(0, 1), 3);
        x.set(21, 49);
        // 240000 by 100: 2400 more.
        Check.due("LIMIT 49", x.money(0, 0), 1442400 / 300);
        Check.due("below", x.money(0, 1), 3);
        x.bill();
        Check.due("nothing came, no DEMAND", x.money(0, 0), 0);
        Check.due("below", x.money(0, 1), 1);
        Check.due("the one ahead", x.money(1, 0), 4808);
    }

    private static void excessIsNeverLess() {
        WorkMeter x = meter();
        x.set(22, 100);
        SamplesTest.period4(x, 100, 10, -5);
        x.bill();
        // 1000 * 100 - 2000 * 40 = 20000, times 100 by 100, by 1000.
        Check.due("QUADRANT 4 counts", x.money(0, 0), 20);
        x.set(21, 50);
        Check.due("just at LIMIT", x.money(0, 0), 0);
        x.set(21, 200);
        x.set(10, 1);
        Check.due("0 at least", x.money(0, 0), 2);
        SamplesTest.period4(x, 100, -10, 5);
        SamplesTest.period4(x, 100, -10, -5);
        x.bill();
        Check.due("QUADRANTS 2, 3 do not", x.money(0, 0), 0);
        x.set(10, 0);
        x.set(22, 1);
        SamplesTest.period4(x, 1, 0, 1);
        x.bill();
        Check.due("hundredths stay", x.money(0, 0), 1);
        Check.due("below", x.money(0, 1), 500);
    }

    private static void wrongOnes() {
        WorkMeter x = meter();
        Check.due("none yet", x.billed(0, 0, 0), -1);
        x.bill();
        int[][] wrong = {{-1, 0, 0}, {1, 0, 0}, {0, 7, 0}, {0, -1, 0}, {0, 0, 4}, {0, 0, -2}};
        for (int[] w : wrong) {
            Check.due("billed", x.billed(w[0], w[1], w[2]), -1);
        }
        Check.due("bills(1, 0)", x.bills(1, 0), -1);
        Check.due("bills(-1, 0)", x.bills(-1, 0), -1);
        Check.due("money(1, 0)", x.money(1, 0), -1);
        Check.due("money(-1, 0)", x.money(-1, 0), -1);
        Check.due("money(0, 2)", x.money(0, 2), -1);
        Check.due("money(0, -1)", x.money(0, -1), -1);
    }
}
