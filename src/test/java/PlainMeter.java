import java.util.ArrayList;
import java.util.Arrays;
import java.util.List;
import java.util.TreeMap;

/**
 * The document once more, second by second and without any shortcut: what RandomRunsTest
 * holds the program against. It is slow and makes many objects, as the program must not.
 */
final class PlainMeter {
    static final long NO = -10000000000L;

    /** All that an image keeps. */
    private static final class State {
        int p = 1;
        int n = 8;
        List<int[]> come = new ArrayList<>();
        List<int[]> period = new ArrayList<>();
        int time;
        TreeMap<Integer, Integer> settings = new TreeMap<>();
        List<TreeMap<Integer, Integer>> tables = new ArrayList<>();
        int[] begins = {0, -1, -1, -1};
        int[][] weeks = new int[4][7];
        TreeMap<Integer, Integer> specials = new TreeMap<>();
        long[][] raw = new long[7][4];
        long credit;
        boolean prepaid;
        boolean open;
        int metered;
        int creep;
        int off;
        boolean[] on = new boolean[5];
        int[] comings = new int[5];
        int[] markSeconds = new int[5];
        int[] so = new int[5];
        List<long[]> load = new ArrayList<>();
        long[] block = new long[6];
        int began;
        long demand = -1;
        int demandTime = -1;
        long[] most = {-1, -1, -1, -1};
        int[] mostTime = {-1, -1, -1, -1};
        List<long[][]> bills = new ArrayList<>();
        List<int[]> log = new ArrayList<>();
        int code = -1;
        int wrong;
        int refused;
        int lockedUntil = -1;
        // The DAY last looked at; forgotten by each call that may tell the CALENDAR.
        int foundDay = -1;
        int foundTable;

        State() {
            int[][] first = {{0, 0}, {1, 1000}, {2, 100}, {3, 3}, {4, 900}, {5, 3},
                {10, 0}, {11, 0}, {12, 0}, {13, 0}, {20, 0}, {21, 40}, {22, 0}};
            for (int[] f : first) {
                settings.put(f[0], f[1]);
            }
            for (int t = 0; t < 8; t++) {
                tables.add(new TreeMap<>());
            }
            for (int k = 0; k < 8; k++) {
                period.add(new int[] {0, 0});
            }
        }

        State copy() {
            State c = new State();
            c.p = p;
            c.n = n;
            c.come = new ArrayList<>(come);
            c.period = new ArrayList<>(period);
            c.time = time;
            c.settings = new TreeMap<>(settings);
            for (int t = 0; t < 8; t++) {
                c.tables.set(t, new TreeMap<>(tables.get(t)));
            }
            c.begins = begins.clone();
            for (int k = 0; k < 4; k++) {
                c.weeks[k] = weeks[k].clone();
            }
            c.specials = new TreeMap<>(specials);
            for (int k = 0; k < 7; k++) {
                c.raw[k] = raw[k].clone();
            }
            c.credit = credit;
            c.prepaid = prepaid;
            c.open = open;
            c.metered = metered;
            c.creep = creep;
            c.off = off;
            c.on = on.clone();
            c.comings = comings.clone();
            c.markSeconds = markSeconds.clone();
            c.so = so.clone();
            c.load = new ArrayList<>(load);
            c.block = block.clone();
            c.began = began;
            c.demand = demand;
            c.demandTime = demandTime;
            c.most = most.clone();
            c.mostTime = mostTime.clone();
            c.bills = new ArrayList<>(bills);
            c.log = new ArrayList<>(log);
            c.code = code;
            c.wrong = wrong;
            c.refused = refused;
            c.lockedUntil = lockedUntil;
            return c;
        }

        int get(int what) {
            return settings.get(what);
        }

        void note(int what, int number) {
            log.add(new int[] {time, what, number});
        }

        int tableOf(int day) {
            int y = day % 365;
            if (specials.containsKey(y)) {
                return specials.get(y);
            }
            int season = -1;
            for (int d = y; d >= 0 && season < 0; d--) {
                season = beginsOn(d);
            }
            for (int d = 364; d >= 0 && season < 0; d--) {
                season = beginsOn(d);
            }
            return weeks[season][day % 7];
        }

        private int beginsOn(int day) {
            for (int s = 0; s < 4; s++) {
                if (begins[s] == day) {
                    return s;
                }
            }
            return -1;
        }

        int tariffAt(int t) {
            if (t / 86400 != foundDay) {
                foundDay = t / 86400;
                foundTable = tableOf(foundDay);
            }
            var entry = tables.get(foundTable).floorEntry(t % 86400);
            return entry == null ? 0 : entry.getValue();
        }

        // u, i of SAMPLE k of a PHASE.
        private int[] at(int phase, int k) {
            return period.get(k * p + phase);
        }

        long sum(int phase, int what) {
            long sum = 0;
            for (int k = 0; k < n; k++) {
                int[] a = at(phase, k);
                int[] b = at(phase, (k + n / 4) % n);
                switch (what) {
                    case 0: sum += a[0] * a[1]; break;
                    case 1: sum += a[0] * b[1]; break;
                    case 2: sum += a[0] * a[0]; break;
                    default: sum += a[1] * a[1]; break;
                }
            }
            return sum;
        }

        long together(int phase, int what) {
            if (phase >= 0) {
                return sum(phase, what);
            }
            long all = 0;
            for (int f = 0; f < p; f++) {
                all += sum(f, what);
            }
            return all;
        }

        private boolean[] seen() {
            boolean less = false;
            boolean notLess = false;
            boolean below = false;
            boolean above = false;
            boolean strange = false;
            for (int f = 0; f < p; f++) {
                if (sum(f, 2) < (long) n * get(2)) {
                    less = true;
                } else {
                    notLess = true;
                }
                below |= sum(f, 0) < 0;
                above |= sum(f, 0) > 0;
                strange |= sum(f, 3) > 0 && sum(f, 2) == 0;
            }
            return new boolean[] {false, false, less && notLess, below && above, strange};
        }

        void turn(int mark, boolean to) {
            on[mark] = to;
            if (to) {
                comings[mark]++;
            }
            note(to ? mark : mark + 10, 0);
        }

        int bits() {
            int bits = 0;
            for (int m = 0; m < 5; m++) {
                bits |= on[m] ? 1 << m : 0;
            }
            return bits;
        }

        void settle() {
            boolean shall = prepaid && credit <= 0;
            if (shall != open) {
                open = shall;
                note(shall ? 22 : 23, 0);
            }
        }

        void meter(int times) {
            meterTillOpen(times, false);
        }

        // How many SECONDS there were.
        int meterTillOpen(int times, boolean endsOpen) {
            long active = together(-1, 0);
            long reactive = together(-1, 1);
            boolean[] seen = seen();
            for (int k = 0; k < times; k++) {
                if (open && endsOpen) {
                    return k;
                }
                second(active, reactive, seen);
            }
            return times;
        }

        private void second(long active, long reactive, boolean[] seen) {
            long a = open ? 0 : active;
            long q = open ? 0 : reactive;
            long s = root(a * a + q * q);
            int t = tariffAt(time);
            metered++;
            if (Math.abs(a) < get(0) && Math.abs(q) < get(0)) {
                creep++;
            } else {
                long before = raw[0][t] / get(1);
                raw[0][t] += Math.max(0, a);
                raw[1][t] += Math.max(0, -a);
                raw[1 + quadrant(a, q)][t] += Math.abs(q);
                raw[6][t] += s;
                block[0] += Math.max(0, a);
                block[1] += Math.max(0, -a);
                block[2] += s;
                credit -= (raw[0][t] / get(1) - before) * get(10 + t);
            }
            settle();
            for (int m = 2; m < 5; m++) {
                so[m] = seen[m] ? so[m] + 1 : 0;
                if (!on[m] && so[m] > get(3) && seen[m] || on[m] && !seen[m]) {
                    turn(m, !on[m]);
                }
            }
            for (int m = 0; m < 5; m++) {
                markSeconds[m] += on[m] ? 1 : 0;
            }
            block[3]++;
            block[5] |= bits();
            if (time < 2000000000) {
                time++;
            }
            if (time % get(4) == 0) {
                endByTime(t);
            }
        }

        void endBlock(int told) {
            if (block[3] + block[4] > 0) {
                long status = statusSoFar() | told | (time % get(4) != 0 ? 128 : 0);
                load.add(new long[] {time, block[0], block[1], block[2], block[3], status});
            }
            block = new long[6];
        }

        long statusSoFar() {
            return block[5] | (block[4] > 0 ? 32 : 0) | (began % get(4) != 0 ? 128 : 0);
        }

        private void endByTime(int tariff) {
            endBlock(0);
            began = time;
            int window = get(5);
            int last = load.size() - 1;
            if (load.size() < window) {
                return;
            }
            long sum = 0;
            for (int k = 0; k < window; k++) {
                long[] line = load.get(last - k);
                if ((line[5] & 64) != 0 || (line[5] & 128) != 0) {
                    return;
                }
                if (line[0] != time - (long) k * get(4)) {
                    return;
                }
                sum += line[1];
            }
            demand = sum;
            demandTime = time;
            if (sum > most[tariff]) {
                most[tariff] = sum;
                mostTime[tariff] = time;
            }
        }

        void goOff(int seconds) {
            note(21, seconds);
            come.clear();
            for (int m = 2; m < 5; m++) {
                so[m] = 0;
                if (on[m]) {
                    turn(m, false);
                }
            }
            for (int k = 0; k < seconds; k++) {
                int t = tariffAt(time);
                off++;
                block[4]++;
                block[5] |= bits();
                time++;
                if (time % get(4) == 0) {
                    endByTime(t);
                }
            }
        }

        long total(int register, int tariff) {
            return tariff >= 0 ? raw[register][tariff] : Arrays.stream(raw[register]).sum();
        }
    }

    private State x = new State();
    private State taken;
    private List<Integer> tape = new ArrayList<>();
    private int fault;
    private int faultPlace = -1;

    static long root(long v) {
        long r = (long) Math.sqrt((double) v);
        while (r * r > v) {
            r--;
        }
        while ((r + 1) * (r + 1) <= v) {
            r++;
        }
        return r;
    }

    static int quadrant(long a, long q) {
        return a < 0 ? (q < 0 ? 3 : 2) : (q < 0 ? 4 : 1);
    }

    private static boolean in(long v, long least, long most) {
        return v >= least && v <= most;
    }

    private boolean refused() {
        x.foundDay = -1;
        if (x.code >= 0) {
            x.refused++;
        }
        return x.code >= 0;
    }

    boolean phases(int p, int n) {
        if (refused() || !in(p, 1, 3) || n != 4 && n != 8 && n != 12 && n != 16) {
            return false;
        }
        x.p = p;
        x.n = n;
        x.come.clear();
        x.period = new ArrayList<>();
        for (int k = 0; k < p * n; k++) {
            x.period.add(new int[] {0, 0});
        }
        return true;
    }

    int sample(int u, int i) {
        if (!in(u, -500, 500) || !in(i, -500, 500)) {
            return -1;
        }
        x.come.add(new int[] {u, i});
        if (x.come.size() == x.p * x.n) {
            x.period = x.come;
            x.come = new ArrayList<>();
            x.meter(1);
        }
        return x.come.size();
    }

    long again(int n) {
        if (!in(n, 1, 900)) {
            return -1;
        }
        x.meter(n);
        return x.total(0, -1) / x.get(1);
    }

    boolean set(int what, int v) {
        if (refused()) {
            return false;
        }
        boolean can;
        switch (what) {
            case 0: can = in(v, 0, 1000000); break;
            case 1: can = in(v, 1, 1000000) && x.metered == 0; break;
            case 2: can = in(v, 0, 250000); break;
            case 3: can = in(v, 0, 60); break;
            case 4: can = v == 60 || v == 300 || v == 900 || v == 1800 || v == 3600; break;
            case 5: can = in(v, 1, 6); break;
            case 10: case 11: case 12: case 13: case 20: case 22: can = in(v, 0, 100); break;
            case 21: can = in(v, 0, 200); break;
            default: can = false; break;
        }
        if (can && what == 4) {
            x.endBlock(64);
            x.began = x.time;
        }
        if (can) {
            x.settings.put(what, v);
        }
        return can;
    }

    int table(int table, int second, int tariff) {
        if (refused() || !in(table, 0, 7) || !in(second, 0, 86399) || !in(tariff, 0, 3)) {
            return -1;
        }
        TreeMap<Integer, Integer> t = x.tables.get(table);
        if (t.size() == 6 && !t.containsKey(second)) {
            return -1;
        }
        t.put(second, tariff);
        return t.size();
    }

    int wipe(int table) {
        if (refused() || !in(table, 0, 7)) {
            return -1;
        }
        int had = x.tables.get(table).size();
        x.tables.get(table).clear();
        return had;
    }

    int feed(int a, int b, int c, int d, int e) {
        if (tape.size() > 280) {
            return -1;
        }
        for (int v : new int[] {a, b, c, d, e}) {
            tape.add(v >> 24 & 255);
            tape.add(v >> 16 & 255);
            tape.add(v >> 8 & 255);
            tape.add(v & 255);
        }
        return tape.size();
    }

    boolean end(int n) {
        if (!in(n, 0, tape.size())) {
            return false;
        }
        tape = new ArrayList<>(tape.subList(0, n));
        return true;
    }

    int calendar() {
        fault = 0;
        faultPlace = -1;
        List<Integer> text = tape;
        tape = new ArrayList<>();
        if (refused()) {
            return -1;
        }
        PlainText read = new PlainText(text);
        if (read.fault != 0) {
            fault = read.fault;
            faultPlace = read.faultPlace;
            return -1;
        }
        x.tables = read.tables;
        x.begins = read.begins;
        x.weeks = read.weeks;
        x.specials = read.specials;
        for (int t = 0; read.prices != null && t < 4; t++) {
            x.settings.put(10 + t, read.prices[t]);
        }
        return read.lines;
    }

    int fault(int what) {
        return what == 0 ? fault : what == 1 ? faultPlace : -1;
    }

    boolean seal(int code) {
        if (x.code >= 0 || !in(code, 0, 9999)) {
            return false;
        }
        x.code = code;
        x.note(30, 0);
        return true;
    }

    boolean open(int code) {
        if (x.code < 0 || x.time < x.lockedUntil) {
            return false;
        }
        if (code == x.code) {
            x.code = -1;
            x.wrong = 0;
            x.lockedUntil = -1;
            x.note(31, 0);
            return true;
        }
        x.wrong++;
        x.note(32, x.wrong);
        if (x.wrong == 3) {
            x.wrong = 0;
            x.lockedUntil = x.time + 300;
            x.note(33, 0);
        }
        return false;
    }

    boolean season(int season, int day) {
        if (refused() || !in(season, 0, 3) || !in(day, season == 0 ? 0 : -1, 364)) {
            return false;
        }
        x.begins[season] = day;
        return true;
    }

    boolean week(int season, int day, int table) {
        if (refused() || !in(season, 0, 3) || !in(day, 0, 6) || !in(table, 0, 7)) {
            return false;
        }
        x.weeks[season][day] = table;
        return true;
    }

    boolean special(int day, int table) {
        if (refused() || !in(day, 0, 364) || !in(table, -1, 7)) {
            return false;
        }
        boolean is = x.specials.containsKey(day);
        if (table == -1) {
            x.specials.remove(day);
            return is;
        }
        if (!is && x.specials.size() == 16) {
            return false;
        }
        x.specials.put(day, table);
        return true;
    }

    int move(int time) {
        if (refused() || !in(time, 0, 2000000000)) {
            return -1;
        }
        int ahead = x.time;
        x.endBlock(64);
        x.time = time;
        x.began = time;
        x.note(20, ahead);
        return ahead;
    }

    int off(int n) {
        if (!in(n, 1, 100000) || x.time + n > 2000000000) {
            return -1;
        }
        x.goOff(n);
        return x.time;
    }

    boolean mark(int mark, boolean on) {
        if (!in(mark, 0, 1) || x.on[mark] == on) {
            return false;
        }
        x.turn(mark, on);
        return true;
    }

    boolean prepaid(boolean is) {
        boolean other = x.prepaid != is;
        x.prepaid = is;
        x.settle();
        return other;
    }

    long pay(int amount) {
        if (!in(amount, 0, 1000000000)) {
            return NO;
        }
        x.credit += amount;
        x.settle();
        return x.credit;
    }

    int bill() {
        long[][] bill = new long[9][];
        for (int r = 0; r < 7; r++) {
            bill[r] = x.raw[r].clone();
        }
        bill[7] = x.most.clone();
        bill[8] = new long[] {x.time};
        x.bills.add(bill);
        Arrays.fill(x.most, -1);
        Arrays.fill(x.mostTime, -1);
        x.note(24, 0);
        return x.bills.size();
    }

    long period(int phase, int what) {
        if (!in(phase, -1, x.p - 1) || !in(what, 0, 8)) {
            return NO;
        }
        long a = x.together(phase, 0);
        long q = x.together(phase, 1);
        long s = root(a * a + q * q);
        switch (what) {
            case 4: return s;
            case 5: return quadrant(a, q);
            case 6: case 7:
                long most = 0;
                for (int f = 0; f < x.p; f++) {
                    if (phase == -1 || phase == f) {
                        most = Math.max(most, root(x.sum(f, what - 4) / x.n));
                    }
                }
                return most;
            case 8: return s == 0 ? 0 : 1000 * a / s;
            default: return x.together(phase, what);
        }
    }

    long raw(int register, int tariff) {
        return in(register, 0, 6) && in(tariff, -1, 3) ? x.total(register, tariff) : -1;
    }

    long reading(int register, int tariff) {
        long raw = raw(register, tariff);
        return raw == -1 ? -1 : raw / x.get(1);
    }

    int tariffAt(int time) {
        return in(time, 0, 2000000000) ? x.tariffAt(time) : -1;
    }

    int tableOf(int day) {
        return in(day, 0, 23148) ? x.tableOf(day) : -1;
    }

    int switching(int table, int i, int what) {
        if (!in(table, 0, 7)) {
            return -1;
        }
        List<Integer> seconds = new ArrayList<>(x.tables.get(table).keySet());
        if (i == -1) {
            return seconds.size();
        }
        if (!in(i, 0, seconds.size() - 1) || !in(what, 0, 1)) {
            return -1;
        }
        return what == 0 ? seconds.get(i) : x.tables.get(table).get(seconds.get(i));
    }

    int next(int what) {
        if (!in(what, 0, 1)) {
            return -1;
        }
        int lastDay = x.time / 86400 + 14;
        for (int t = x.time + 1; t <= 2000000000 && t / 86400 <= lastDay; t++) {
            if (x.tariffAt(t) != x.tariffAt(t - 1)) {
                return what == 0 ? t : x.tariffAt(t);
            }
        }
        return -1;
    }

    int marked(int mark, int what) {
        if (!in(mark, 0, 4)) {
            return -1;
        }
        switch (what) {
            case 0: return x.on[mark] ? 1 : 0;
            case 1: return x.comings[mark];
            case 2: return x.markSeconds[mark];
            case 3: return x.so[mark];
            default: return -1;
        }
    }

    private int firstKept() {
        return Math.max(0, x.load.size() - 64);
    }

    private List<long[]> keptLoad() {
        return x.load.subList(firstKept(), x.load.size());
    }

    long load(int i, int what) {
        int kept = keptLoad().size();
        if (i == -1) {
            return kept;
        }
        return in(i, 0, kept - 1) && in(what, 0, 5) ? x.load.get(x.load.size() - 1 - i)[what] : -1;
    }

    long block(int what) {
        if (what == 5) {
            return x.statusSoFar();
        }
        return in(what, 0, 4) ? x.block[what] : -1;
    }

    long demand(int what) {
        return what == 0 ? x.demand : what == 1 ? x.demandTime : -1;
    }

    long greatest(int tariff, int what) {
        if (!in(tariff, 0, 3)) {
            return -1;
        }
        return what == 0 ? x.most[tariff] : what == 1 ? x.mostTime[tariff] : -1;
    }

    private boolean isBill(int i) {
        return in(i, 0, Math.min(6, x.bills.size()) - 1);
    }

    long billed(int i, int register, int tariff) {
        if (!isBill(i) || !in(register, 0, 6) || !in(tariff, -1, 3)) {
            return -1;
        }
        int at = x.bills.size() - 1 - i;
        long sum = 0;
        for (int t = 0; t < 4; t++) {
            if (tariff == -1 || tariff == t) {
                sum += x.bills.get(at)[register][t];
                sum -= at > 0 ? x.bills.get(at - 1)[register][t] : 0;
            }
        }
        return sum;
    }

    long bills(int i, int what) {
        if (!isBill(i) || !in(what, 0, 4)) {
            return -1;
        }
        long[][] bill = x.bills.get(x.bills.size() - 1 - i);
        return what == 0 ? bill[8][0] : bill[7][what - 1];
    }

    long money(int i, int what) {
        if (!isBill(i) || !in(what, 0, 1)) {
            return -1;
        }
        long[][] bill = x.bills.get(x.bills.size() - 1 - i);
        long plain = Math.max(0, Arrays.stream(bill[7]).max().getAsLong()) * x.get(20);
        for (int t = 0; t < 4; t++) {
            plain += billed(i, 0, t) * x.get(10 + t);
        }
        long excess = (billed(i, 2, -1) + billed(i, 5, -1)) * 100 - billed(i, 0, -1) * x.get(21);
        long above = plain * 100 + Math.max(0, excess) * x.get(22);
        var big = java.math.BigInteger.valueOf(above);
        long divisor = big.gcd(java.math.BigInteger.valueOf(100L * x.get(1))).longValue();
        return (what == 0 ? above : 100L * x.get(1)) / divisor;
    }

    long would(int n, int what) {
        if (!in(n, 1, 900) || !in(what, 0, 6)) {
            return NO;
        }
        State y = x.copy();
        y.meter(n);
        switch (what) {
            case 0: return y.total(0, -1) / y.get(1);
            case 1: return y.total(1, -1) / y.get(1);
            case 2: return y.credit;
            case 3: return Arrays.stream(y.most).max().getAsLong();
            case 4: return y.bits();
            case 5: return y.open ? 1 : 0;
            default: return y.time;
        }
    }

    private long costFrom(int from, int n) {
        long sum = 0;
        for (int t = from; t < from + n; t++) {
            sum += x.get(10 + x.tariffAt(t));
        }
        return sum;
    }

    long cost(int n) {
        return in(n, 1, 100000) && x.time + n - 1 <= 2000000000 ? costFrom(x.time, n) : -1;
    }

    long cheapest(int n, int what) {
        if (!in(n, 1, 100000) || !in(what, 0, 1) || x.time + 95 * 900 + n - 1 > 2000000000) {
            return -1;
        }
        long least = costFrom(x.time, n);
        long sum = least;
        int at = x.time;
        for (int k = 1; k < 96; k++) {
            int from = x.time + k * 900;
            for (int t = from - 900; t < from; t++) {
                sum += x.get(10 + x.tariffAt(t + n)) - x.get(10 + x.tariffAt(t));
            }
            if (sum < least) {
                least = sum;
                at = from;
            }
        }
        return what == 0 ? at : least;
    }

    int lasts() {
        State y = x.copy();
        int seconds = y.meterTillOpen(3600, true);
        return y.open ? seconds : -1;
    }

    long lost(int what) {
        if (!in(what, 0, 3)) {
            return -1;
        }
        long sum = 0;
        for (int k = 0; k < firstKept(); k++) {
            sum += x.load.get(k)[1 + what];
        }
        return sum;
    }

    long best(int m, int what) {
        List<long[]> kept = keptLoad();
        if (!in(m, 1, 64) || m > kept.size() || !in(what, 0, 1)) {
            return -1;
        }
        long most = -1;
        long time = -1;
        for (int k = 0; k + m <= kept.size(); k++) {
            long sum = 0;
            for (int j = k; j < k + m; j++) {
                sum += kept.get(j)[1];
            }
            if (sum >= most) {
                most = sum;
                time = kept.get(k + m - 1)[0];
            }
        }
        return what == 0 ? most : time;
    }

    long between(int from, int to) {
        long sum = 0;
        for (long[] line : keptLoad()) {
            sum += line[0] > from && line[0] <= to ? line[1] : 0;
        }
        return sum;
    }

    int log(int i, int what) {
        if (!in(i, 0, Math.min(40, x.log.size()) - 1) || !in(what, 0, 2)) {
            return -1;
        }
        return x.log.get(x.log.size() - 1 - i)[what];
    }

    int holds(int day, int tariff) {
        if (!in(day, 0, 23148) || !in(tariff, 0, 3)) {
            return -1;
        }
        TreeMap<Integer, Integer> table = x.tables.get(x.tableOf(day));
        int sum = 0;
        for (int s = 0; s < 86400; s++) {
            var entry = table.floorEntry(s);
            sum += (entry == null ? 0 : entry.getValue()) == tariff ? 1 : 0;
        }
        return sum;
    }

    boolean image(boolean take) {
        if (take) {
            taken = x.copy();
        } else if (taken != null) {
            x = taken.copy();
        }
        return taken != null;
    }

    long look(int what) {
        if (in(what, 20, 25) || in(what, 30, 33)) {
            return x.get(what - 20);
        }
        if (in(what, 50, 52)) {
            return x.get(what - 30);
        }
        if (in(what, 40, 43)) {
            return x.begins[what - 40];
        }
        switch (what) {
            case 0: return x.time;
            case 1: return x.tariffAt(x.time);
            case 2: return x.credit;
            case 3: return x.prepaid ? 1 : 0;
            case 4: return x.open ? 1 : 0;
            case 5: return x.metered;
            case 6: return x.creep;
            case 7: return x.off;
            case 8: return x.bits();
            case 9: return x.log.size();
            case 10: return x.load.size();
            case 11: return x.bills.size();
            case 12: return x.p;
            case 13: return x.n;
            case 14: return x.come.size();
            case 15: return x.specials.size();
            case 53: return x.code >= 0 ? 1 : 0;
            case 54: return x.wrong;
            case 55: return Math.max(0, x.lockedUntil - x.time);
            case 56: return x.refused;
            case 57: return tape.size();
            default: return NO;
        }
    }
}
