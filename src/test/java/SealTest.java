/** Promises 12, 13, 17, 48: SEALED, opened, LOCKED, REFUSED. */
public final class SealTest {
    private SealTest() {
    }

    public static void main(String[] args) {
        codes();
        refusedCalls();
        wrongCodes();
        lockedBySeconds();
        oldLocksStayGone();
        Check.finish();
    }

    private static void codes() {
        for (int code : new int[] {-1, 10000, Integer.MAX_VALUE, Integer.MIN_VALUE}) {
            Check.due("seal(" + code + ")", new WorkMeter().seal(code), false);
        }
        for (int code : new int[] {0, 9999}) {
            WorkMeter x = new WorkMeter();
            Check.due("open", x.open(code), false);
            Check.due("no line", x.look(9), 0);
            Check.due("seal", x.seal(code), true);
            Check.due("seal", x.seal(code), false);
            Check.due("look(53)", x.look(53), 1);
            Check.due("open", x.open(code), true);
            Check.due("look(53)", x.look(53), 0);
            Check.due("31", x.log(0, 1), 31);
            Check.due("30", x.log(1, 1), 30);
            Check.due("30's number", x.log(1, 2), 0);
            Check.due("open", x.open(code), false);
            Check.due("lines", x.look(9), 2);
            Check.due("WRONG", x.look(54), 0);
        }
    }

    private static void refusedCalls() {
        WorkMeter x = new WorkMeter();
        x.table(0, 1, 1);
        x.special(1, 1);
        x.seal(5);
        Check.due("set", x.set(0, 1), false);
        Check.due("set", x.set(99, 1), false);
        Check.due("phases", x.phases(2, 4), false);
        Check.due("table", x.table(0, 0, 0), -1);
        Check.due("table", x.table(9, 0, 0), -1);
        Check.due("wipe", x.wipe(0), -1);
        Check.due("season", x.season(1, 1), false);
        Check.due("week", x.week(0, 0, 1), false);
        Check.due("special", x.special(1, -1), false);
        Check.due("move", x.move(100), -1);
        Check.due("calendar", x.calendar(), -1);
        Check.due("REFUSED", x.look(56), 11);
        Check.due("START", x.look(20), 0);
        Check.due("p", x.look(12), 1);
        Check.due("SWITCHES", x.switching(0, -1, 0), 1);
        Check.due("SEASON 1", x.look(41), -1);
        Check.due("tableOf(0)", x.tableOf(0), 0);
        Check.due("SPECIAL days", x.look(15), 1);
        Check.due("TIME", x.look(0), 0);
        Check.due("again", x.again(1), 0);
        Check.due("sample", x.sample(1, 1), 1);
        Check.due("off", x.off(1), 2);
        Check.due("mark", x.mark(0, true), true);
        Check.due("pay", x.pay(1), 1);
        Check.due("prepaid", x.prepaid(true), true);
        Check.due("bill", x.bill(), 1);
        Check.due("image", x.image(true), true);
        Check.due("REFUSED", x.look(56), 11);
        x.open(5);
        Check.due("set", x.set(0, 1), true);
        Check.due("REFUSED stays", x.look(56), 11);
    }

    private static void wrongCodes() {
        WorkMeter x = new WorkMeter();
        x.seal(5);
        Check.due("open(4)", x.open(4), false);
        Check.due("open(-1)", x.open(-1), false);
        Check.due("WRONG", x.look(54), 2);
        Check.due("32", x.log(0, 1), 32);
        Check.due("its number", x.log(0, 2), 2);
        Check.due("open(5)", x.open(5), true);
        Check.due("WRONG", x.look(54), 0);
        x.seal(6);
        x.open(5);
        x.open(5);
        Check.due("not LOCKED yet", x.look(55), 0);
        x.open(5);
        Check.due("LOCKED", x.look(55), 300);
        Check.due("WRONG", x.look(54), 0);
        Check.due("33", x.log(0, 1), 33);
        Check.due("33's number", x.log(0, 2), 0);
        Check.due("32 ahead of it", x.log(1, 1), 32);
        Check.due("its number", x.log(1, 2), 3);
    }

    private static void lockedBySeconds() {
        WorkMeter x = new WorkMeter();
        x.again(10);
        x.seal(6);
        x.open(1);
        x.open(1);
        x.open(1);
        long lines = x.look(9);
        x.again(299);
        Check.due("LOCKED", x.look(55), 1);
        Check.due("open(6)", x.open(6), false);
        Check.due("open(1)", x.open(1), false);
        Check.due("none counts", x.look(54), 0);
        Check.due("no line", x.look(9), lines);
        x.off(1);
        Check.due("LOCKED", x.look(55), 0);
        x.open(1);
        Check.due("counts again", x.look(54), 1);
        Check.due("open(6)", x.open(6), true);
    }

    private static void oldLocksStayGone() {
        WorkMeter x = new WorkMeter();
        x.seal(6);
        x.open(1);
        x.open(1);
        x.open(1);
        x.off(300);
        x.open(6);
        Check.due("move(0)", x.move(0), 300);
        Check.due("LOCKED", x.look(55), 0);
        x.seal(7);
        Check.due("LOCKED", x.look(55), 0);
        Check.due("open(7)", x.open(7), true);
    }
}
