/** Promise 1: one PHASE, nothing METERED. */
public final class NewObjectTest {
    private NewObjectTest() {
    }

    public static void main(String[] args) {
        WorkMeter x = new WorkMeter();
        long none = -10000000000L;
        long[] due = {0, 0, 0, 0, 0, 0, 0, 0, 0, 0, 0, 0, 1, 8, 0, 0};
        for (int what = 0; what < due.length; what++) {
            Check.due("look(" + what + ")", x.look(what), due[what]);
        }
        long[] settings = {0, 1000, 100, 3, 900, 3};
        for (int k = 0; k < settings.length; k++) {
            Check.due("look(" + (20 + k) + ")", x.look(20 + k), settings[k]);
        }
        for (int t = 0; t < 4; t++) {
            Check.due("look(3" + t + ")", x.look(30 + t), 0);
            Check.due("look(4" + t + ")", x.look(40 + t), t == 0 ? 0 : -1);
        }
        long[] last = {0, 40, 0, 0, 0, 0, 0, 0};
        for (int k = 0; k < last.length; k++) {
            Check.due("look(" + (50 + k) + ")", x.look(50 + k), last[k]);
        }
        int[] others = {-1, 16, 19, 26, 29, 34, 39, 44, 49, 58, 100, Integer.MAX_VALUE, Integer.MIN_VALUE};
        for (int what : others) {
            Check.due("look(" + what + ")", x.look(what), none);
        }
        Check.due("lasts()", x.lasts(), -1);
        Check.due("image(false)", x.image(false), false);
        for (int what = -1; what < 7; what++) {
            Check.due("load(NONE, " + what + ")", x.load(-1, what), 0);
            Check.due("switching(0, NONE, " + what + ")", x.switching(0, -1, what), 0);
        }
        Check.due("fault(0)", x.fault(0), 0);
        Check.due("fault(1)", x.fault(1), -1);
        Check.due("fault(2)", x.fault(2), -1);
        Check.finish();
    }
}
