import java.util.Random;

/** All promises: random runs of calls, each answer held against PlainMeter's. */
public final class RandomRunsTest {
    private static final int[] ODD = {-2, -1, 0, 1, 2, 3, 4, 5, 6, 7, 8, 9, 63, 64, 65,
        Integer.MAX_VALUE, Integer.MIN_VALUE};

    private final Random random;
    private final WorkMeter x = new WorkMeter();
    private final PlainMeter y = new PlainMeter();
    private final StringBuilder story = new StringBuilder();
    private final boolean late;

    private RandomRunsTest(long seed) {
        random = new Random(seed);
        late = seed % 10 == 0;
        story.append("seed ").append(seed).append(": ");
    }

    public static void main(String[] args) {
        long first = args.length > 0 ? Long.parseLong(args[0]) : 1;
        long last = args.length > 1 ? Long.parseLong(args[1]) : 150;
        for (long seed = first; seed <= last && Check.wrongSoFar() == 0; seed++) {
            new RandomRunsTest(seed).run();
        }
        Check.finish();
    }

    private void run() {
        tellSome();
        for (int k = 0; k < 150 && Check.wrongSoFar() == 0; k++) {
            change();
            for (int q = 0; q < 2; q++) {
                ask();
            }
        }
        askAll();
        if (Check.wrongSoFar() > 0) {
            System.out.println(story);
        }
    }

    private int upTo(int most) {
        return random.nextInt(most + 1);
    }

    private int odd() {
        return ODD[random.nextInt(ODD.length)];
    }

    // Mostly a number in its bounds, now and then one at or beyond them.
    private int near(int least, int most) {
        switch (random.nextInt(24)) {
            case 0: return least - 1;
            case 1: return most + 1;
            case 2: return least;
            case 3: return most;
            case 4: return odd();
            default: return least + random.nextInt(most - least + 1);
        }
    }

    private int pick(int... from) {
        return from[random.nextInt(from.length)];
    }

    private void due(String call, long got, long want) {
        Check.due(call + " in " + (got == want ? "" : "the run below"), got, want);
    }

    private String said(String name, int... args) {
        StringBuilder call = new StringBuilder(name).append('(');
        for (int k = 0; k < args.length; k++) {
            call.append(k > 0 ? ", " : "").append(args[k]);
        }
        story.append(call).append(") ");
        return call.append(')').toString();
    }

    private static long one(boolean b) {
        return b ? 1 : 0;
    }

    private void tellSome() {
        set(1, pick(1, 7, 100, 1000, 1000000));
        set(4, pick(60, 60, 300, 900, 3600));
        phases(pick(1, 2, 3), pick(4, 4, 8, 12, 16));
        for (int t = 0; t < 4; t++) {
            set(10 + t, upTo(100));
        }
        for (int k = 0; k < 12; k++) {
            table(upTo(3), pick(0, 60, 120, 900, 3599, 3600, 43200, 86399, upTo(86399)), upTo(3));
        }
        for (int k = 0; k < 8; k++) {
            week(upTo(3), upTo(6), upTo(3));
        }
        season(1, upTo(364));
        season(2, upTo(30));
        special(upTo(20), upTo(3));
        move(late ? 2000000000 - upTo(100000) : random.nextBoolean() ? upTo(200000) : upTo(1900000000));
    }

    private void change() {
        switch (random.nextInt(30)) {
            case 0: phases(near(1, 3), pick(4, 4, 4, 8, 12, 16, 5, 20, 0)); break;
            case 1: case 2: case 3: case 4: case 5: case 6: wholePeriod(); break;
            case 7: case 8: case 9: case 10: again(near(1, 900)); break;
            case 11: again(upTo(70)); break;
            case 12: tellSetting(); break;
            case 13: table(near(0, 7), near(0, 86399), near(0, 3)); break;
            case 14: calendarText(); break;
            case 15: sealing(); break;
            case 16: season(near(0, 3), near(-1, 364)); break;
            case 17: week(near(0, 3), near(0, 6), near(0, 7)); break;
            case 18: special(pick(upTo(20), near(0, 364)), near(-1, 7)); break;
            case 19: moving(); break;
            case 20: off(pick(1, 59, 60, 61, near(1, 1000), near(1, 100000))); break;
            case 21: marking(); break;
            case 22: prepaying(); break;
            case 23: paying(); break;
            case 24: billing(); break;
            case 25: imaging(); break;
            case 26: sampling(); break;
            case 27: wiping(); break;
            default: again(pick(1, 2, 3, 4, 5, 30, 60, 300, 900)); break;
        }
    }

    private void set(int what, int v) {
        due(said("set", what, v), one(x.set(what, v)), one(y.set(what, v)));
    }

    private void phases(int p, int n) {
        due(said("phases", p, n), one(x.phases(p, n)), one(y.phases(p, n)));
    }

    private void table(int table, int second, int tariff) {
        due(said("table", table, second, tariff), x.table(table, second, tariff), y.table(table, second, tariff));
    }

    private void week(int season, int day, int table) {
        due(said("week", season, day, table), one(x.week(season, day, table)), one(y.week(season, day, table)));
    }

    private void season(int season, int day) {
        due(said("season", season, day), one(x.season(season, day)), one(y.season(season, day)));
    }

    private void special(int day, int table) {
        due(said("special", day, table), one(x.special(day, table)), one(y.special(day, table)));
    }

    private void move(int time) {
        due(said("move", time), x.move(time), y.move(time));
    }

    private void moving() {
        int time = (int) y.look(0);
        int multiple = time / 3600 * 3600;
        move(pick(time, time + 1, multiple, multiple + 3599, near(0, 2000000000), multiple - 86400));
    }

    private void again(int n) {
        due(said("again", n), x.again(n), y.again(n));
    }

    private void off(int n) {
        due(said("off", n), x.off(n), y.off(n));
    }

    private void sample(int u, int i) {
        due(said("sample", u, i), x.sample(u, i), y.sample(u, i));
    }

    private void sampling() {
        for (int k = 0; k < 3; k++) {
            sample(near(-500, 500), near(-500, 500));
        }
    }

    // Phases without voltage, without current, turned round: what MARKS look at.
    private void wholePeriod() {
        int p = (int) y.look(12);
        int left = p * (int) y.look(13) - (int) y.look(14);
        int[] volts = new int[p];
        int[] amperes = new int[p];
        for (int f = 0; f < p; f++) {
            volts[f] = pick(0, 1, 10, 11, 230, 500);
            amperes[f] = pick(0, 1, 5, -5, 100, -100, 500);
        }
        int shift = upTo(3);
        for (int k = 0; k < left; k++) {
            int sign = (k / p + shift) % 4 < 2 ? 1 : -1;
            int f = k % p;
            int current = random.nextInt(3) == 0 ? upTo(20) : sign * amperes[f];
            sample(volts[f] * ((k / p) % 2 == 0 ? sign : -1), current);
        }
    }

    private void tellSetting() {
        int what = pick(0, 0, 1, 2, 3, 3, 4, 5, 10, 11, 12, 13, 20, 21, 22, odd(), 14, 23);
        int v;
        switch (what) {
            case 0: v = pick(0, 1, 100, 5000, near(0, 1000000)); break;
            case 1: v = near(1, 1000000); break;
            case 2: v = pick(0, 1, 100, 101, near(0, 250000)); break;
            case 3: v = pick(0, 1, 2, 5, near(0, 60)); break;
            case 4: v = pick(60, 60, 300, 300, 900, 1800, 3600, 61, 0); break;
            case 5: v = near(1, 6); break;
            case 21: v = near(0, 200); break;
            default: v = near(0, 100); break;
        }
        set(what, v);
    }

    private void wiping() {
        int table = near(0, 7);
        due(said("wipe", table), x.wipe(table), y.wipe(table));
    }

    private void sealing() {
        if (random.nextInt(3) == 0) {
            int code = pick(1, 1, 1, 0, 9999, 10000, -1);
            due(said("seal", code), one(x.seal(code)), one(y.seal(code)));
        }
        for (int k = 0; k < upTo(5); k++) {
            int code = pick(1, 1, 0, 9999, 2, -1);
            due(said("open", code), one(x.open(code)), one(y.open(code)));
        }
    }

    private void marking() {
        int mark = pick(0, 1, 0, 1, 2, -1);
        boolean on = random.nextBoolean();
        due(said("mark" + on, mark), one(x.mark(mark, on)), one(y.mark(mark, on)));
    }

    private void prepaying() {
        boolean is = random.nextInt(3) > 0;
        due(said("prepaid" + is), one(x.prepaid(is)), one(y.prepaid(is)));
    }

    private void paying() {
        int owed = (int) Math.max(0, Math.min(900000000, -y.look(2)));
        int amount = pick(owed, owed + 1, owed + upTo(100000), owed + upTo(50000000), near(0, 1000000000));
        due(said("pay", amount), x.pay(amount), y.pay(amount));
    }

    private void billing() {
        due(said("bill"), x.bill(), y.bill());
    }

    private void imaging() {
        boolean take = random.nextInt(3) > 0;
        due(said("image" + take), one(x.image(take)), one(y.image(take)));
    }

    private void calendarText() {
        String text = RandomText.write(random);
        for (int k = 0; k < text.length(); k += 20) {
            int[] v = new int[5];
            for (int b = 0; b < 20; b++) {
                int c = k + b < text.length() ? text.charAt(k + b) : ' ';
                v[b / 4] = v[b / 4] << 8 | c;
            }
            due(said("feed", v), x.feed(v[0], v[1], v[2], v[3], v[4]), y.feed(v[0], v[1], v[2], v[3], v[4]));
        }
        int n = random.nextInt(8) == 0 ? near(0, 300) : Math.min(300, text.length());
        due(said("end", n), one(x.end(n)), one(y.end(n)));
        due("look(57)", x.look(57), y.look(57));
        if (random.nextInt(8) > 0) {
            due(said("calendar"), x.calendar(), y.calendar());
            for (int what = -1; what < 3; what++) {
                due(said("fault", what), x.fault(what), y.fault(what));
            }
        }
    }

    private void ask() {
        int a = near(-1, 8);
        int b = near(-1, 8);
        int n = pick(1, 60, 900, near(1, 900));
        int m = pick(1, 900, 3600, 86400, near(1, 100000));
        switch (random.nextInt(24)) {
            case 0: due(said("period", a, b), x.period(a, b), y.period(a, b)); break;
            case 1: due(said("raw", a, b), x.raw(a, b), y.raw(a, b)); break;
            case 2: due(said("reading", a, b), x.reading(a, b), y.reading(a, b)); break;
            case 3: int t = near(0, 2000000000);
                due(said("tariffAt", t), x.tariffAt(t), y.tariffAt(t)); break;
            case 4: int d = near(0, 23148);
                due(said("tableOf", d), x.tableOf(d), y.tableOf(d)); break;
            case 5: due(said("switching", a, b, n % 3), x.switching(a, b, n % 3), y.switching(a, b, n % 3)); break;
            case 6: if (random.nextInt(10) == 0) {
                    due(said("next", a), x.next(a), y.next(a));
                }
                break;
            case 7: due(said("marked", a, b), x.marked(a, b), y.marked(a, b)); break;
            case 8: int line = m % 67 - 1;
                due(said("load", line, b), x.load(line, b), y.load(line, b)); break;
            case 9: due(said("block", b), x.block(b), y.block(b)); break;
            case 10: due(said("demand", b), x.demand(b), y.demand(b)); break;
            case 11: due(said("greatest", a, b), x.greatest(a, b), y.greatest(a, b)); break;
            case 12: due(said("billed", a, b, n % 6 - 1), x.billed(a, b, n % 6 - 1), y.billed(a, b, n % 6 - 1)); break;
            case 13: due(said("bills", a, b), x.bills(a, b), y.bills(a, b)); break;
            case 14: due(said("money", a, n % 3), x.money(a, n % 3), y.money(a, n % 3)); break;
            case 15: case 16: due(said("would", n, b), x.would(n, b), y.would(n, b)); break;
            case 17: due(said("cost", m), x.cost(m), y.cost(m)); break;
            case 18: if (random.nextInt(5) == 0) {
                    due(said("cheapest", m, n % 3), x.cheapest(m, n % 3), y.cheapest(m, n % 3));
                }
                break;
            case 19: due(said("lasts"), x.lasts(), y.lasts()); break;
            case 20: due(said("best", m % 66, n % 3), x.best(m % 66, n % 3), y.best(m % 66, n % 3)); break;
            case 21: int from = near(0, 2000000000);
                int to = (int) y.look(0) - upTo(5000);
                due(said("between", from, to), x.between(from, to), y.between(from, to)); break;
            case 22: due(said("holds", m % 400, a), x.holds(m % 400, a), y.holds(m % 400, a)); break;
            default: int what = near(-1, 60);
                due(said("look", what), x.look(what), y.look(what)); break;
        }
    }

    private void askAll() {
        for (int what = -1; what < 60; what++) {
            due("look(" + what + ")", x.look(what), y.look(what));
        }
        for (int i = -1; i < 66; i++) {
            for (int what = -1; what < 7; what++) {
                due("load(" + i + ", " + what + ")", x.load(i, what), y.load(i, what));
                due("log(" + i + ", " + what + ")", x.log(i, what), y.log(i, what));
                due("best(" + i + ", " + what + ")", x.best(i, what), y.best(i, what));
            }
        }
        for (int a = -1; a < 9; a++) {
            askRow(a);
        }
        int time = (int) Math.max(0, y.look(0) - 100000);
        due("between", x.between(time, time + 90000), y.between(time, time + 90000));
        due("between", x.between(Integer.MIN_VALUE, Integer.MAX_VALUE), y.between(Integer.MIN_VALUE, Integer.MAX_VALUE));
        due("next(0)", x.next(0), y.next(0));
        due("next(1)", x.next(1), y.next(1));
        due("lasts()", x.lasts(), y.lasts());
    }

    private void askRow(int a) {
        for (int b = -1; b < 10; b++) {
            due("period(" + a + ", " + b + ")", x.period(a, b), y.period(a, b));
            due("raw(" + a + ", " + b + ")", x.raw(a, b), y.raw(a, b));
            due("reading(" + a + ", " + b + ")", x.reading(a, b), y.reading(a, b));
            due("marked(" + a + ", " + b + ")", x.marked(a, b), y.marked(a, b));
            due("greatest(" + a + ", " + b + ")", x.greatest(a, b), y.greatest(a, b));
            due("bills(" + a + ", " + b + ")", x.bills(a, b), y.bills(a, b));
            due("money(" + a + ", " + b + ")", x.money(a, b), y.money(a, b));
            for (int c = -1; c < 5; c++) {
                due("billed(" + a + ", " + b + ", " + c + ")", x.billed(a, b, c), y.billed(a, b, c));
                due("switching(" + a + ", " + b + ", " + c + ")", x.switching(a, b, c), y.switching(a, b, c));
            }
        }
        due("block(" + a + ")", x.block(a), y.block(a));
        due("demand(" + a + ")", x.demand(a), y.demand(a));
        due("lost(" + a + ")", x.lost(a), y.lost(a));
        due("would(900, " + a + ")", x.would(900, a), y.would(900, a));
    }
}
