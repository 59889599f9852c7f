/** Promises 38, 47: IN THOUGHT, and THE IMAGE. */
public final class ThoughtTest {
    private ThoughtTest() {
    }

    public static void main(String[] args) {
        would();
        wouldOpen();
        wouldBeWrong();
        noImage();
        imageGoesBack();
        tapeStays();
        Check.finish();
    }

    private static void would() {
        WorkMeter x = new WorkMeter();
        x.phases(2, 4);
        x.set(4, 60);
        x.set(10, 1);
        for (int k = 0; k < 4; k++) {
            x.sample(100, 10);
            x.sample(100, -5);
        }
        long[] due = {180 * 2, 0, -360, 360000, 8, 0, 180};
        for (int what = 0; what < due.length; what++) {
            Check.due("would(179, " + what + ")", x.would(179, what), due[what]);
        }
        Check.due("no DEMAND", x.would(178, 3), -1);
        Check.due("DELAY", x.would(2, 4), 0);
        Check.due("DELAY", x.would(3, 4), 8);
        Check.due("nothing stays", x.look(0), 1);
        Check.due("nothing stays", x.look(2), -2);
        Check.due("nothing stays", x.look(10), 0);
        Check.due("nothing stays", x.marked(3, 3), 1);
        Check.due("nothing stays", x.look(9), 0);
        WorkMeter y = new WorkMeter();
        y.phases(1, 4);
        SamplesTest.period4(y, 100, -10, 0);
        Check.due("EXPORT", y.would(900, 1), 1802);
    }

    private static void wouldOpen() {
        WorkMeter x = new WorkMeter();
        x.phases(1, 4);
        x.set(10, 1);
        SamplesTest.period4(x, 50, 10, 0);
        x.pay(11);
        x.prepaid(true);
        Check.due("not yet", x.would(9, 5), 0);
        Check.due("open", x.would(10, 5), 1);
        Check.due("CREDIT", x.would(100, 2), 0);
        Check.due("IMPORT", x.would(100, 0), 11);
        Check.due("TIME", x.would(100, 6), 101);
    }

    private static void wouldBeWrong() {
        WorkMeter x = new WorkMeter();
        int[][] wrong = {{0, 0}, {901, 0}, {-1, 0}, {1, 7}, {1, -1}, {Integer.MAX_VALUE, 0}};
        for (int[] w : wrong) {
            Check.due("would", x.would(w[0], w[1]), -10000000000L);
        }
    }

    private static void noImage() {
        WorkMeter x = new WorkMeter();
        x.again(5);
        Check.due("image(false)", x.image(false), false);
        Check.due("nothing is done", x.look(0), 5);
    }

    private static void imageGoesBack() {
        WorkMeter x = new WorkMeter();
        x.phases(1, 4);
        SamplesTest.period4(x, 100, 10, 0);
        x.sample(100, 10);
        x.seal(5);
        x.open(1);
        Check.due("image(true)", x.image(true), true);
        for (int k = 0; k < 2; k++) {
            x.open(5);
            x.set(0, 7);
            x.phases(3, 8);
            x.table(0, 0, 1);
            x.season(1, 1);
            x.special(1, 1);
            x.pay(5);
            x.prepaid(true);
            x.mark(0, true);
            x.again(900);
            x.bill();
            x.seal(9);
            Check.due("image(false)", x.image(false), true);
            long[] due = {1, 0, 0, 0, 0, 1, 0, 0, 0, 2, 0, 0, 1, 4, 1, 0};
            for (int what = 0; what < due.length; what++) {
                Check.due("look(" + what + ")", x.look(what), due[what]);
            }
            Check.due("START", x.look(20), 0);
            Check.due("SEASON 1", x.look(41), -1);
            Check.due("SEALED", x.look(53), 1);
            Check.due("WRONG", x.look(54), 1);
            Check.due("THE PERIOD", x.period(0, 0), 2000);
            Check.due("SWITCHES", x.switching(0, -1, 0), 0);
            Check.due("no BILL", x.bills(0, 0), -1);
            Check.due("marked", x.marked(0, 1), 0);
        }
        Check.due("its code", x.open(5), true);
        x.again(1);
        Check.due("taken anew", x.image(true), true);
        x.again(7);
        x.image(false);
        Check.due("TIME", x.look(0), 2);
        x.sample(0, 0);
        x.sample(-100, -10);
        Check.due("a SAMPLE kept", x.sample(0, 0), 0);
        Check.due("RAW", x.raw(0, 0), 6000);
    }

    private static void tapeStays() {
        WorkMeter x = new WorkMeter();
        x.image(true);
        x.feed(-1, -1, -1, -1, -1);
        x.calendar();
        x.feed(1, 2, 3, 4, 5);
        x.image(false);
        Check.due("THE TAPE", x.look(57), 20);
        Check.due("fault(0)", x.fault(0), 1);
        Check.due("fault(1)", x.fault(1), 0);
    }
}
