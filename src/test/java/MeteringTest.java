/** Promises 5, 20, 21, 24, 25, 41: what can be told, REGISTERS, CREEP, CREDIT and the SWITCH. */
public final class MeteringTest {
    private MeteringTest() {
    }

    public static void main(String[] args) {
        settingsInTheirBounds();
        unitWhileNothingWasMetered();
        creep();
        readingsByTariffs();
        creditGoesByReadings();
        switchOpensAndCloses();
        lasts();
        theLeastPower();
        wrongRegisters();
        Check.finish();
    }

    private static void settingsInTheirBounds() {
        int[][] bounds = {{0, 0, 1000000, 20}, {1, 1, 1000000, 21}, {2, 0, 250000, 22}, {3, 0, 60, 23},
            {5, 1, 6, 25}, {10, 0, 100, 30}, {11, 0, 100, 31}, {12, 0, 100, 32}, {13, 0, 100, 33},
            {20, 0, 100, 50}, {21, 0, 200, 51}, {22, 0, 100, 52}};
        WorkMeter x = new WorkMeter();
        for (int[] b : bounds) {
            Check.due("set(" + b[0] + ") least", x.set(b[0], b[1]), true);
            Check.due("look(" + b[3] + ")", x.look(b[3]), b[1]);
            Check.due("set(" + b[0] + ") most", x.set(b[0], b[2]), true);
            Check.due("set(" + b[0] + ") below", x.set(b[0], b[1] - 1), false);
            Check.due("set(" + b[0] + ") beyond", x.set(b[0], b[2] + 1), false);
            Check.due("look(" + b[3] + ")", x.look(b[3]), b[2]);
        }
        for (int block : new int[] {60, 300, 900, 1800, 3600}) {
            Check.due("BLOCK", x.set(4, block), true);
            Check.due("look(24)", x.look(24), block);
        }
        for (int block : new int[] {0, -60, 59, 61, 120, 600, 3601, 7200}) {
            Check.due("BLOCK", x.set(4, block), false);
        }
        for (int what : new int[] {-1, 6, 7, 8, 9, 14, 15, 19, 23, 24, Integer.MAX_VALUE, Integer.MIN_VALUE}) {
            Check.due("set(" + what + ", 1)", x.set(what, 1), false);
        }
    }

    private static void unitWhileNothingWasMetered() {
        WorkMeter x = new WorkMeter();
        x.off(10);
        Check.due("UNIT", x.set(1, 7), true);
        x.again(1);
        Check.due("UNIT", x.set(1, 8), false);
        Check.due("look(21)", x.look(21), 7);
        Check.due("START", x.set(0, 8), true);
    }

    private static void creep() {
        WorkMeter x = new WorkMeter();
        x.phases(1, 4);
        x.set(0, 2000);
        SamplesTest.period4(x, 100, 10, 5);
        Check.due("IMPORT: P is not less", x.raw(0, 0), 2000);
        x.set(0, 2001);
        x.again(3);
        Check.due("CREEP", x.look(6), 3);
        Check.due("METERED", x.look(5), 4);
        Check.due("IMPORT", x.raw(0, 0), 2000);
        Check.due("APPARENT", x.raw(6, 0), 2236);
        SamplesTest.period4(x, 100, 5, -11);
        Check.due("Q without sign is not less", x.raw(5, 0), 2200);
        Check.due("CREEP", x.look(6), 3);
        Check.due("BLOCK's SECONDS", x.block(3), 5);
        Check.due("BLOCK's IMPORT", x.block(0), 3000);
        x.set(0, 2200);
        x.again(1);
        Check.due("Q is just START", x.raw(5, 0), 4400);
        x.set(0, 2201);
        x.again(1);
        Check.due("CREEP", x.look(6), 4);
    }

    private static void readingsByTariffs() {
        WorkMeter x = new WorkMeter();
        x.phases(1, 4);
        x.table(0, 2, 3);
        SamplesTest.period4(x, 75, 10, 0);
        x.again(2);
        Check.due("RAW 0", x.raw(0, 0), 3000);
        Check.due("RAW 3", x.raw(0, 3), 1500);
        Check.due("READING 3", x.reading(0, 3), 1);
        Check.due("RAW TOTAL", x.raw(0, -1), 4500);
        Check.due("READING TOTAL", x.reading(0, -1), 4);
        Check.due("READING APPARENT", x.reading(6, 3), 1);
    }

    private static void creditGoesByReadings() {
        WorkMeter x = new WorkMeter();
        x.phases(1, 4);
        x.set(10, 7);
        SamplesTest.period4(x, 30, 10, 0);
        Check.due("600: no READING", x.look(2), 0);
        x.again(1);
        Check.due("1200: one", x.look(2), -7);
        x.again(3);
        Check.due("3000: three", x.look(2), -21);
        x.set(10, 1);
        Check.due("a PRICE told changes nothing", x.look(2), -21);
        SamplesTest.period4(x, -30, 10, 0);
        Check.due("EXPORT does not", x.look(2), -21);
        Check.due("pay(0)", x.pay(0), -21);
        Check.due("pay(1000000000)", x.pay(1000000000), 999999979);
        Check.due("pay(1000000001)", x.pay(1000000001), -10000000000L);
        Check.due("pay(-1)", x.pay(-1), -10000000000L);
        Check.due("look(2)", x.look(2), 999999979);
    }

    private static void switchOpensAndCloses() {
        WorkMeter x = new WorkMeter();
        x.phases(1, 4);
        x.set(10, 2);
        Check.due("pay(5)", x.pay(5), 5);
        Check.due("prepaid(false)", x.prepaid(false), false);
        Check.due("prepaid(true)", x.prepaid(true), true);
        Check.due("prepaid(true)", x.prepaid(true), false);
        Check.due("look(3)", x.look(3), 1);
        Check.due("look(4)", x.look(4), 0);
        Check.due("no line yet", x.look(9), 0);
        SamplesTest.period4(x, 50, 10, 0);
        Check.due("again(10)", x.again(10), 3);
        Check.due("look(4)", x.look(4), 1);
        Check.due("CREDIT", x.look(2), -1);
        Check.due("opened at", x.log(0, 0), 2);
        Check.due("opened", x.log(0, 1), 22);
        Check.due("number", x.log(0, 2), 0);
        Check.due("METERED all the same", x.look(5), 11);
        Check.due("START 0: no CREEP", x.look(6), 0);
        x.set(0, 1);
        x.again(2);
        Check.due("P, Q are 0: CREEP", x.look(6), 2);
        Check.due("pay(1)", x.pay(1), 0);
        Check.due("still open", x.look(4), 1);
        Check.due("pay(1)", x.pay(1), 1);
        Check.due("closed", x.log(0, 1), 23);
        x.again(1);
        Check.due("open again", x.look(4), 1);
        Check.due("prepaid(false)", x.prepaid(false), true);
        Check.due("closed", x.look(4), 0);
        Check.due("lines", x.look(9), 4);
    }

    private static void lasts() {
        WorkMeter x = new WorkMeter();
        x.phases(1, 4);
        x.set(10, 2);
        x.pay(7200);
        SamplesTest.period4(x, 50, 10, 0);
        Check.due("not PREPAID", x.lasts(), -1);
        x.prepaid(true);
        Check.due("3599 READINGS yet", x.lasts(), 3599);
        x.pay(2);
        Check.due("3600", x.lasts(), 3600);
        x.pay(1);
        Check.due("not by then", x.lasts(), -1);
        Check.due("nothing stays", x.look(0), 1);
        Check.due("no line", x.look(9), 0);
        x.table(0, 11, 1);
        Check.due("TARIFF 1 is free", x.lasts(), -1);
        x.set(11, 100);
        // TIME is 1: ten SECONDS at 2 leave 7181 of 7201, which 72 SECONDS at 100 use up.
        Check.due("by TARIFFS", x.lasts(), 10 + 72);
        x.again(90);
        Check.due("it is open", x.lasts(), 0);
    }

    private static void theLeastPower() {
        WorkMeter x = new WorkMeter();
        x.phases(1, 4);
        x.set(1, 1);
        x.set(10, 1);
        x.sample(1, 1);
        x.sample(0, 0);
        x.sample(0, 0);
        x.sample(0, 0);
        Check.due("P is 1: IMPORT", x.raw(0, 0), 1);
        Check.due("EXPORT", x.raw(1, 0), 0);
        Check.due("BLOCK's IMPORT", x.block(0), 1);
        Check.due("BLOCK's EXPORT", x.block(1), 0);
        x.pay(4);
        x.prepaid(true);
        Check.due("lasts()", x.lasts(), 3);
        x.again(10);
        Check.due("CREDIT", x.look(2), 0);
        Check.due("opened at", x.log(0, 0), 3);
    }

    private static void wrongRegisters() {
        WorkMeter x = new WorkMeter();
        for (int[] w : new int[][] {{-1, 0}, {7, 0}, {0, -2}, {0, 4}, {Integer.MAX_VALUE, 0}, {0, Integer.MIN_VALUE}}) {
            Check.due("raw", x.raw(w[0], w[1]), -1);
            Check.due("reading", x.reading(w[0], w[1]), -1);
        }
    }
}
