/** Promises 17, 18, 31, 32, 33, 34, 42, 43, 44: the clock, OFF, BLOCKS, THE LOAD, DEMAND. */
public final class BlocksTest {
    private static final int LAST = 2000000000;

    private BlocksTest() {
    }

    public static void main(String[] args) {
        linesByTime();
        movedClock();
        blockTold();
        off();
        offEnds();
        marksInStatus();
        demand();
        demandNeedsLinesInTurn();
        greatestByTariffs();
        lostLines();
        best();
        between();
        theLastTime();
        Check.finish();
    }

    // 2000 of IMPORT a SECOND, BLOCKS of a minute; one SECOND is METERED.
    private static WorkMeter minutes() {
        WorkMeter x = new WorkMeter();
        x.set(4, 60);
        x.phases(1, 4);
        SamplesTest.period4(x, 100, 10, 0);
        return x;
    }

    private static void line(WorkMeter x, int i, long... due) {
        for (int what = 0; what < due.length; what++) {
            Check.due("load(" + i + ", " + what + ")", x.load(i, what), due[what]);
        }
    }

    private static void block(WorkMeter x, long... due) {
        for (int what = 0; what < due.length; what++) {
            Check.due("block(" + what + ")", x.block(what), due[what]);
        }
    }

    private static void linesByTime() {
        WorkMeter x = minutes();
        x.again(58);
        block(x, 118000, 0, 118000, 59, 0, 0);
        Check.due("no LINE yet", x.load(-1, 0), 0);
        x.again(1);
        block(x, 0, 0, 0, 0, 0, 0);
        line(x, 0, 60, 120000, 0, 120000, 60, 0);
        SamplesTest.period4(x, 100, -10, 0);
        x.again(62);
        line(x, 0, 120, 0, 120000, 120000, 60, 0);
        line(x, 1, 60, 120000, 0, 120000, 60, 0);
        block(x, 0, 6000, 6000, 3, 0, 0);
        for (int what : new int[] {0, 5, -1, 6, Integer.MAX_VALUE, Integer.MIN_VALUE}) {
            Check.due("how many, whatever what is", x.load(-1, what), 2);
        }
        Check.due("none such", x.load(2, 0), -1);
        Check.due("none such", x.load(-2, 0), -1);
        Check.due("another what", x.load(0, 6), -1);
        Check.due("another what", x.load(0, -1), -1);
        Check.due("another what", x.load(1, Integer.MIN_VALUE), -1);
        Check.due("none such, another what", x.load(-2, -1), -1);
        Check.due("block(6)", x.block(6), -1);
        Check.due("block(-1)", x.block(-1), -1);
        Check.due("look(10)", x.look(10), 2);
    }

    private static void movedClock() {
        WorkMeter x = minutes();
        x.again(9);
        Check.due("move", x.move(1000), 10);
        line(x, 0, 10, 20000, 0, 20000, 10, 64 + 128);
        Check.due("TIME", x.log(0, 0), 1000);
        Check.due("what", x.log(0, 1), 20);
        Check.due("the TIME ahead", x.log(0, 2), 10);
        block(x, 0, 0, 0, 0, 0, 128);
        Check.due("no SECOND: no LINE", x.move(5), 1000);
        Check.due("look(10)", x.look(10), 1);
        x.again(55);
        line(x, 0, 60, 110000, 0, 110000, 55, 128);
        Check.due("at a multiple", x.move(600), 60);
        Check.due("look(10)", x.look(10), 2);
        x.again(60);
        line(x, 0, 660, 120000, 0, 120000, 60, 0);
        Check.due("to where it is", x.move(660), 660);
        Check.due("a line all the same", x.log(0, 2), 660);
        int[] wrong = {-1, LAST + 1, Integer.MIN_VALUE, Integer.MAX_VALUE};
        for (int time : wrong) {
            Check.due("move(" + time + ")", x.move(time), -1);
        }
        Check.due("TIME", x.look(0), 660);
        Check.due("move", x.move(LAST), 660);
        Check.due("move", x.move(0), LAST);
    }

    private static void blockTold() {
        WorkMeter x = minutes();
        x.set(4, 900);
        line(x, 0, 1, 2000, 0, 2000, 1, 64 + 128);
        Check.due("began at 1", x.block(5), 128);
        x.again(299);
        Check.due("BLOCK told", x.set(4, 300), true);
        line(x, 0, 300, 598000, 0, 598000, 299, 64 + 128);
        Check.due("300 is a multiple now", x.block(5), 0);
        x.again(10);
        Check.due("the same told", x.set(4, 300), true);
        line(x, 0, 310, 20000, 0, 20000, 10, 64 + 128);
        x.again(10);
        Check.due("one that can't be", x.set(4, 301), false);
        Check.due("look(10)", x.look(10), 3);
    }

    private static void off() {
        WorkMeter x = minutes();
        x.sample(1, 1);
        Check.due("off(130)", x.off(130), 131);
        Check.due("SAMPLES are gone", x.look(14), 0);
        line(x, 0, 120, 0, 0, 0, 0, 32);
        line(x, 1, 60, 2000, 0, 2000, 1, 32);
        block(x, 0, 0, 0, 0, 11, 32);
        Check.due("SECONDS OFF", x.look(7), 130);
        Check.due("METERED", x.look(5), 1);
        Check.due("TIME", x.log(0, 0), 1);
        Check.due("what", x.log(0, 1), 21);
        Check.due("SECONDS", x.log(0, 2), 130);
        x.again(1);
        Check.due("THE PERIOD stays", x.raw(0, 0), 4000);
        Check.due("no SECOND METERED: a LINE", x.move(0), 132);
        line(x, 0, 132, 2000, 0, 2000, 1, 32 + 64 + 128);
    }

    private static void offEnds() {
        WorkMeter x = new WorkMeter();
        for (int n : new int[] {0, -1, 100001, Integer.MAX_VALUE, Integer.MIN_VALUE}) {
            Check.due("off(" + n + ")", x.off(n), -1);
        }
        Check.due("off(1)", x.off(1), 1);
        Check.due("off(100000)", x.off(100000), 100001);
        Check.due("look(7)", x.look(7), 100001);
        Check.due("look(10)", x.look(10), 111);
        x.move(LAST - 10);
        long lines = x.look(9);
        Check.due("beyond the last TIME", x.off(11), -1);
        Check.due("nothing is done", x.look(9), lines);
        Check.due("to the last TIME", x.off(10), LAST);
        Check.due("off(1)", x.off(1), -1);
    }

    private static void marksInStatus() {
        WorkMeter x = minutes();
        x.mark(1, true);
        x.mark(1, false);
        Check.due("off behind each SECOND", x.block(5), 0);
        x.mark(0, true);
        x.again(1);
        x.mark(0, false);
        Check.due("COVER was ON", x.block(5), 1);
        x.mark(1, true);
        x.off(1);
        x.mark(1, false);
        x.again(57);
        line(x, 0, 60, 118000, 0, 118000, 59, 1 + 2 + 32);
        Check.due("the next BLOCK", x.block(5), 0);
    }

    private static void demand() {
        WorkMeter x = minutes();
        x.again(179);
        Check.due("DEMAND", x.demand(0), 360000);
        Check.due("its TIME", x.demand(1), 180);
        Check.due("another what", x.demand(2), -1);
        Check.due("GREATEST", x.greatest(0, 0), 360000);
        x.again(60);
        Check.due("DEMAND slides", x.demand(1), 240);
        Check.due("GREATEST came first", x.greatest(0, 1), 180);
        x.set(5, 1);
        x.off(60);
        Check.due("DEMAND of nothing", x.demand(0), 0);
        Check.due("DEMAND in OFF", x.demand(1), 300);
        Check.due("GREATEST", x.greatest(0, 0), 360000);
        x.set(5, 6);
        x.again(60);
        Check.due("six LINES", x.demand(0), 600000);
        Check.due("GREATEST", x.greatest(0, 1), 360);
    }

    private static void demandNeedsLinesInTurn() {
        WorkMeter x = minutes();
        x.set(5, 2);
        x.again(59);
        Check.due("one LINE alone", x.demand(0), -1);
        Check.due("no TIME", x.demand(1), -1);
        x.move(120);
        x.again(60);
        Check.due("not a BLOCK later", x.demand(0), -1);
        x.again(60);
        Check.due("DEMAND", x.demand(1), 240);
        x.again(30);
        x.set(4, 60);
        x.again(30);
        Check.due("64, 128", x.demand(1), 240);
        x.again(60);
        Check.due("128 yet", x.demand(1), 240);
        x.again(60);
        Check.due("DEMAND", x.demand(1), 420);
        x.set(4, 300);
        x.set(5, 1);
        x.again(180);
        Check.due("it did not begin so", x.demand(1), 420);
        x.again(300);
        Check.due("DEMAND", x.demand(1), 900);
        Check.due("DEMAND", x.demand(0), 600000);
        x.set(5, 2);
        x.move(600);
        x.again(300);
        Check.due("the same TIME again", x.demand(1), 900);
    }

    private static void greatestByTariffs() {
        WorkMeter x = minutes();
        x.set(5, 1);
        x.table(0, 59, 2);
        x.table(0, 60, 1);
        x.again(59);
        Check.due("TARIFF of the last SECOND", x.greatest(2, 0), 120000);
        Check.due("its TIME", x.greatest(2, 1), 60);
        x.again(30);
        x.off(30);
        Check.due("TARIFF 1", x.greatest(1, 0), 60000);
        x.again(60);
        Check.due("a greater one", x.greatest(1, 0), 120000);
        Check.due("its TIME", x.greatest(1, 1), 180);
        x.table(0, 239, 3);
        x.off(60);
        Check.due("of nothing, in OFF", x.greatest(3, 0), 0);
        Check.due("its TIME", x.greatest(3, 1), 240);
        Check.due("none", x.greatest(0, 0), -1);
        Check.due("none", x.greatest(0, 1), -1);
        Check.due("none such", x.greatest(4, 0), -1);
        Check.due("none such", x.greatest(-1, 0), -1);
        Check.due("another what", x.greatest(1, 2), -1);
    }

    private static void lostLines() {
        WorkMeter x = minutes();
        x.again(59);
        SamplesTest.period4(x, -100, 20, 0);
        x.again(59);
        x.off(62 * 60);
        Check.due("64 are kept", x.load(-1, 0), 64);
        Check.due("none is lost", x.lost(0), 0);
        x.off(60);
        line(x, 63, 120, 0, 240000, 240000, 60, 0);
        Check.due("IMPORT", x.lost(0), 120000);
        Check.due("EXPORT", x.lost(1), 0);
        x.off(60);
        Check.due("EXPORT", x.lost(1), 240000);
        Check.due("APPARENT", x.lost(2), 360000);
        Check.due("SECONDS", x.lost(3), 120);
        Check.due("lost(4)", x.lost(4), -1);
        Check.due("lost(-1)", x.lost(-1), -1);
        Check.due("look(10)", x.look(10), 66);
        Check.due("kept", x.load(-1, 6), 64);
        Check.due("none such", x.load(64, 0), -1);
    }

    private static void best() {
        WorkMeter x = minutes();
        x.off(59);
        int[] seconds = {3, 5, 0, 5, 3, 1};
        for (int n : seconds) {
            if (n > 0) {
                x.again(n);
            }
            x.off(60 - n);
        }
        Check.due("of several the latest", x.best(1, 1), 300);
        Check.due("best(1, 0)", x.best(1, 0), 10000);
        Check.due("best(2, 0)", x.best(2, 0), 16000);
        Check.due("best(2, 1)", x.best(2, 1), 360);
        Check.due("best(3, 1)", x.best(3, 1), 300);
        Check.due("best(7, 0)", x.best(7, 0), 36000);
        Check.due("best(7, 1)", x.best(7, 1), 420);
        Check.due("best(8, 0)", x.best(8, 0), -1);
        Check.due("best(0, 0)", x.best(0, 0), -1);
        Check.due("best(-1, 0)", x.best(-1, 0), -1);
        Check.due("best(1, 2)", x.best(1, 2), -1);
        Check.due("best(65, 0)", x.best(65, 0), -1);
        x.off(6000);
        Check.due("best(64, 1)", x.best(64, 1), x.load(0, 0));
        Check.due("best(65, 0)", x.best(65, 0), -1);
    }

    private static void between() {
        WorkMeter x = minutes();
        x.again(179);
        Check.due("later than one, no later than another", x.between(60, 120), 120000);
        Check.due("all", x.between(0, 180), 360000);
        Check.due("none", x.between(60, 119), 0);
        Check.due("one", x.between(59, 60), 120000);
        Check.due("turned round", x.between(180, 0), 0);
        Check.due("any", x.between(Integer.MIN_VALUE, Integer.MAX_VALUE), 360000);
        x.off(62 * 60);
        Check.due("what is kept", x.between(0, LAST), 240000);
    }

    private static void theLastTime() {
        WorkMeter x = minutes();
        x.move(LAST - 1);
        x.again(5);
        Check.due("it stays", x.look(0), LAST);
        Check.due("METERED", x.block(3), 5);
        Check.due("again", x.again(900) > 0, true);
        Check.due("METERED", x.look(5), 906);
        Check.due("RAW", x.raw(0, -1), 906 * 2000);
        Check.due("no end by TIME", x.look(10), 1);
        x.move(0);
        line(x, 0, LAST, 905 * 2000, 0, 905 * 2000, 905, 64 + 128);
    }
}
