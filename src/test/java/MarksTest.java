/** Promises 19, 30, 45: MARKS and THE LOGBOOK. */
public final class MarksTest {
    private MarksTest() {
    }

    public static void main(String[] args) {
        byHand();
        missing();
        reversed();
        strange();
        delayToldMeanwhile();
        offBeginsAnew();
        switchOpenCountsAsItIs();
        theLogbook();
        Check.finish();
    }

    // A PERIOD of 4 SAMPLES of two PHASES, u and i alike in all of one PHASE.
    private static void two(WorkMeter x, int u0, int i0, int u1, int i1) {
        for (int k = 0; k < 4; k++) {
            x.sample(u0, i0);
            x.sample(u1, i1);
        }
    }

    private static WorkMeter twoPhases(int delay) {
        WorkMeter x = new WorkMeter();
        x.phases(2, 4);
        x.set(3, delay);
        return x;
    }

    private static void marked(WorkMeter x, int mark, int... due) {
        for (int what = 0; what < due.length; what++) {
            Check.due("marked(" + mark + ", " + what + ")", x.marked(mark, what), due[what]);
        }
    }

    private static void byHand() {
        WorkMeter x = new WorkMeter();
        x.again(2);
        Check.due("mark", x.mark(0, true), true);
        Check.due("mark", x.mark(0, true), false);
        Check.due("mark", x.mark(1, false), false);
        x.again(3);
        x.off(4);
        marked(x, 0, 1, 1, 3, 0);
        marked(x, 1, 0, 0, 0, 0);
        Check.due("look(8)", x.look(8), 1);
        Check.due("mark", x.mark(0, false), true);
        Check.due("off", x.log(0, 1), 10);
        Check.due("on", x.log(2, 1), 0);
        Check.due("its TIME", x.log(2, 0), 2);
        x.mark(0, true);
        x.mark(1, true);
        marked(x, 0, 1, 2, 3, 0);
        Check.due("look(8)", x.look(8), 3);
        Check.due("MAGNET", x.log(0, 1), 1);
        x.mark(1, false);
        Check.due("MAGNET off", x.log(0, 1), 11);
        for (int mark : new int[] {-1, 2, 3, 4, 5, Integer.MAX_VALUE, Integer.MIN_VALUE}) {
            Check.due("mark(" + mark + ")", x.mark(mark, true), false);
            Check.due("mark(" + mark + ")", x.mark(mark, false), false);
        }
        for (int[] w : new int[][] {{-1, 0}, {5, 0}, {0, 4}, {0, -1}}) {
            Check.due("marked", x.marked(w[0], w[1]), -1);
        }
    }

    private static void missing() {
        WorkMeter x = twoPhases(2);
        two(x, 10, 1, 9, 1);
        marked(x, 2, 0, 0, 0, 1);
        x.again(1);
        marked(x, 2, 0, 0, 0, 2);
        x.again(1);
        marked(x, 2, 1, 1, 1, 3);
        Check.due("its line", x.log(0, 1), 2);
        Check.due("its TIME", x.log(0, 0), 2);
        x.again(10);
        marked(x, 2, 1, 1, 11, 13);
        Check.due("look(8)", x.look(8), 4);
        two(x, 9, 1, 9, 1);
        marked(x, 2, 0, 1, 11, 0);
        Check.due("both less: off", x.log(0, 1), 12);
        Check.due("its TIME", x.log(0, 0), 13);
        two(x, 10, 1, 10, 1);
        marked(x, 2, 0, 1, 11, 0);
        x.set(2, 101);
        x.phases(1, 4);
        SamplesTest.period4(x, 1, 1, 0);
        Check.due("one PHASE alone", x.marked(2, 3), 0);
        x.phases(3, 4);
        x.set(2, 0);
        x.again(9);
        Check.due("none is less than 0", x.marked(2, 3), 0);
    }

    private static void reversed() {
        WorkMeter x = twoPhases(0);
        two(x, 100, 1, 100, -1);
        marked(x, 3, 1, 1, 1, 1);
        Check.due("its line", x.log(0, 1), 3);
        two(x, 100, -1, 100, -1);
        marked(x, 3, 0, 1, 1, 0);
        Check.due("off", x.log(0, 1), 13);
        two(x, 100, -1, 100, 0);
        marked(x, 3, 0, 1, 1, 0);
        two(x, 100, -1, 100, 1);
        marked(x, 3, 1, 2, 2, 1);
    }

    private static void strange() {
        WorkMeter x = new WorkMeter();
        x.phases(1, 4);
        x.set(3, 60);
        SamplesTest.period4(x, 0, 1, 0);
        x.again(59);
        marked(x, 4, 0, 0, 0, 60);
        x.again(1);
        marked(x, 4, 1, 1, 1, 61);
        Check.due("bits", x.look(8), 16);
        Check.due("BLOCK's STATUS", x.block(5), 16);
        SamplesTest.period4(x, 1, 1, 0);
        marked(x, 4, 0, 1, 1, 0);
        SamplesTest.period4(x, 0, 0, 0);
        marked(x, 4, 0, 1, 1, 0);
        WorkMeter y = twoPhases(0);
        two(y, 0, 0, 1, 1);
        Check.due("not of one PHASE", y.marked(4, 0), 0);
    }

    private static void delayToldMeanwhile() {
        WorkMeter x = twoPhases(10);
        two(x, 100, 1, 100, -1);
        x.again(4);
        marked(x, 3, 0, 0, 0, 5);
        x.set(3, 2);
        marked(x, 3, 0, 0, 0, 5);
        x.again(1);
        marked(x, 3, 1, 1, 1, 6);
        x.set(3, 60);
        x.again(1);
        marked(x, 3, 1, 1, 2, 7);
    }

    private static void offBeginsAnew() {
        WorkMeter x = twoPhases(1);
        two(x, 100, 1, 0, -1);
        x.again(1);
        Check.due("MISSING, STRANGE", x.look(8), 4 + 16);
        x.mark(0, true);
        x.off(1);
        Check.due("COVER alone", x.look(8), 1);
        marked(x, 2, 0, 1, 1, 0);
        int[] due = {14, 12, 21, 0, 4, 2};
        for (int i = 0; i < due.length; i++) {
            Check.due("log(" + i + ", 1)", x.log(i, 1), due[i]);
        }
        Check.due("at once", x.log(0, 0), 2);
        x.again(1);
        Check.due("anew", x.marked(4, 3), 1);
        x.again(1);
        marked(x, 4, 1, 2, 2, 2);
    }

    private static void switchOpenCountsAsItIs() {
        WorkMeter x = twoPhases(0);
        x.prepaid(true);
        two(x, 100, 2, 100, -1);
        Check.due("open", x.look(4), 1);
        marked(x, 3, 1, 1, 1, 1);
        Check.due("no RAW", x.raw(0, -1), 0);
        Check.due("no APPARENT", x.raw(6, -1), 0);
        Check.due("THE PERIOD is as it is", x.period(-1, 0), 400);
    }

    private static void theLogbook() {
        WorkMeter x = new WorkMeter();
        for (int k = 0; k < 45; k++) {
            x.move(k + 100);
        }
        Check.due("all that came", x.look(9), 45);
        Check.due("the latest", x.log(0, 0), 144);
        Check.due("the latest's number", x.log(0, 2), 143);
        Check.due("the oldest", x.log(39, 0), 105);
        Check.due("none such", x.log(40, 0), -1);
        Check.due("none such", x.log(-1, 0), -1);
        Check.due("another what", x.log(0, 3), -1);
        Check.due("another what", x.log(0, -1), -1);
        x.bill();
        Check.due("BILL", x.log(0, 1), 24);
        Check.due("its number", x.log(0, 2), 0);
        Check.due("its TIME", x.log(0, 0), 144);
    }
}
