import java.util.Arrays;

/** A meter of electric work; the document DOC.md tells each promise. */
public final class WorkMeter {
    public static final int NONE = -1;

    private static final long NO_NUMBER = NONE - 9999999999L;
    private static final int LAST_TIME = 2000000000;
    private static final int DAY_SECONDS = 86400;
    private static final int LAST_DAY = LAST_TIME / DAY_SECONDS;
    private static final int YEAR_DAYS = 365;
    private static final int WEEK_DAYS = 7;
    private static final int TARIFFS = 4;
    private static final int MOST_AGAIN = 900;
    private static final int MOST_SECONDS = 100000;
    private static final int MOST_LASTING = 3600;
    private static final int STARTS = 96;
    private static final int START_STEP = 900;
    // Euclid's way through two longs takes fewer than a hundred steps.
    private static final int MOST_STEPS = 200;

    private static final int IMPORT = 0;
    private static final int EXPORT = 1;
    private static final int QUADRANT_1 = 2;
    private static final int QUADRANT_4 = 5;
    private static final int APPARENT = 6;
    private static final int REGISTERS = 7;

    private static final int START = 0;
    private static final int UNIT = 1;
    private static final int LOW = 2;
    private static final int DELAY = 3;
    private static final int BLOCK = 4;
    private static final int WINDOW = 5;
    private static final int PRICE = 10;
    private static final int DEMAND_PRICE = 20;
    private static final int LIMIT = 21;
    private static final int EXCESS_PRICE = 22;

    private static final int CLOCK_MOVED = 20;
    private static final int POWER_OFF = 21;
    private static final int SWITCH_OPENED = 22;
    private static final int SWITCH_CLOSED = 23;
    private static final int BILL_MADE = 24;
    private static final int SEAL_SET = 30;
    private static final int SEAL_OPENED = 31;
    private static final int CODE_WRONG = 32;
    private static final int SEAL_LOCKED = 33;

    private static final int STATUS_OFF = 32;
    private static final int STATUS_TOLD = 64;
    private static final int STATUS_PARTIAL = 128;

    private final Meter now = new Meter();
    private final Meter kept = new Meter();
    private final Meter thought = new Meter();
    private final CalendarText text = new CalendarText();
    private boolean imageIs;

    public WorkMeter() {
    }

    public boolean phases(int p, int n) {
        if (now.seal.refuses()) {
            return false;
        }
        return now.wave.tellShape(p, n);
    }

    public int sample(int u, int i) {
        if (u < -500 || u > 500 || i < -500 || i > 500) {
            return NONE;
        }
        if (now.wave.takeSample(u, i)) {
            now.meterTimes(1);
        }
        return now.wave.come;
    }

    public long again(int n) {
        if (n < 1 || n > MOST_AGAIN) {
            return NONE;
        }
        now.meterTimes(n);
        return now.totalReading(IMPORT);
    }

    public boolean set(int what, int v) {
        if (now.seal.refuses()) {
            return false;
        }
        return now.tellSetting(what, v);
    }

    public int table(int table, int second, int tariff) {
        if (now.seal.refuses()) {
            return NONE;
        }
        if (!isTable(table) || !isTariff(tariff) || second < 0 || second >= DAY_SECONDS) {
            return NONE;
        }
        return now.calendar.putSwitch(table, second, tariff);
    }

    public int wipe(int table) {
        if (now.seal.refuses() || !isTable(table)) {
            return NONE;
        }
        return now.calendar.dropSwitches(table);
    }

    public int feed(int a, int b, int c, int d, int e) {
        if (!text.hasRoom()) {
            return NONE;
        }
        text.putBytes(a);
        text.putBytes(b);
        text.putBytes(c);
        text.putBytes(d);
        text.putBytes(e);
        return text.length;
    }

    public boolean end(int n) {
        return text.cutTo(n);
    }

    public int calendar() {
        if (now.seal.refuses()) {
            text.forget();
            return NONE;
        }
        int lines = text.readAll();
        if (lines != NONE) {
            now.calendar.copyFrom(text.draft);
            if (text.priced) {
                now.settings.tellPrices(text.prices);
            }
        }
        return lines;
    }

    public int fault(int what) {
        if (what == 0) {
            return text.fault;
        }
        return what == 1 ? text.faultPlace : NONE;
    }

    public boolean seal(int code) {
        if (!now.seal.close(code)) {
            return false;
        }
        now.note(SEAL_SET, 0);
        return true;
    }

    public boolean open(int code) {
        return now.tryCode(code);
    }

    public boolean season(int season, int day) {
        if (now.seal.refuses() || !isSeason(season) || day < NONE || day >= YEAR_DAYS) {
            return false;
        }
        // SEASON 0 is always told, so that each day has a SEASON.
        if (season == 0 && day == NONE) {
            return false;
        }
        now.calendar.begins[season] = day;
        return true;
    }

    public boolean week(int season, int day, int table) {
        if (now.seal.refuses() || !isSeason(season) || !isTable(table)) {
            return false;
        }
        if (day < 0 || day >= WEEK_DAYS) {
            return false;
        }
        now.calendar.weeks[season * WEEK_DAYS + day] = table;
        return true;
    }

    public boolean special(int day, int table) {
        if (now.seal.refuses() || day < 0 || day >= YEAR_DAYS) {
            return false;
        }
        if (table == NONE) {
            return now.calendar.dropSpecial(day);
        }
        return isTable(table) && now.calendar.putSpecial(day, table);
    }

    public int move(int time) {
        if (now.seal.refuses() || !isTime(time)) {
            return NONE;
        }
        return now.moveClock(time);
    }

    public int off(int n) {
        if (n < 1 || n > MOST_SECONDS || now.time + n > LAST_TIME) {
            return NONE;
        }
        now.goOff(n);
        return now.time;
    }

    public boolean mark(int mark, boolean on) {
        if (mark < 0 || mark >= Marks.BY_HAND || now.marks.isOn(mark) == on) {
            return false;
        }
        now.marks.turn(mark, on, now.logbook, now.time);
        return true;
    }

    public boolean prepaid(boolean is) {
        if (now.prepaid == is) {
            return false;
        }
        now.prepaid = is;
        now.settleSwitch();
        return true;
    }

    public long pay(int amount) {
        if (amount < 0 || amount > 1000000000) {
            return NO_NUMBER;
        }
        now.credit += amount;
        now.settleSwitch();
        return now.credit;
    }

    public int bill() {
        now.makeBill();
        return now.registers.bills;
    }

    public long period(int phase, int what) {
        if (phase < NONE || phase >= now.wave.phases || what < 0 || what > 8) {
            return NO_NUMBER;
        }
        return now.wave.tell(phase, what);
    }

    public long raw(int register, int tariff) {
        if (!isRegister(register) || !isTariffOrAll(tariff)) {
            return NONE;
        }
        return now.registers.sum(register, tariff);
    }

    public long reading(int register, int tariff) {
        if (!isRegister(register) || !isTariffOrAll(tariff)) {
            return NONE;
        }
        return now.registers.sum(register, tariff) / now.settings.unit();
    }

    public int tariffAt(int time) {
        return isTime(time) ? now.calendar.tariffOn(time) : NONE;
    }

    public int tableOf(int day) {
        return isDay(day) ? now.calendar.tableFor(day) : NONE;
    }

    public int switching(int table, int i, int what) {
        if (!isTable(table)) {
            return NONE;
        }
        int count = now.calendar.counts[table];
        // How many there are is asked with i alone: what belongs to one SWITCH.
        if (i == NONE) {
            return count;
        }
        if (i < 0 || i >= count || what < 0 || what > 1) {
            return NONE;
        }
        int slot = table * Calendar.SWITCHES + i;
        return what == 0 ? now.calendar.seconds[slot] : now.calendar.tariffs[slot];
    }

    public int next(int what) {
        if (what < 0 || what > 1) {
            return NONE;
        }
        int time = now.calendar.changeAfter(now.time);
        if (time == NONE || what == 0) {
            return time;
        }
        return now.calendar.tariffOn(time);
    }

    public int marked(int mark, int what) {
        if (mark < 0 || mark >= Marks.ALL) {
            return NONE;
        }
        switch (what) {
            case 0: return now.marks.isOn(mark) ? 1 : 0;
            case 1: return now.marks.comings[mark];
            case 2: return now.marks.seconds[mark];
            case 3: return now.marks.lengths[mark];
            default: return NONE;
        }
    }

    public long load(int i, int what) {
        int lines = now.load.linesKept();
        // How many are kept is asked with i alone: what belongs to one LINE.
        if (i == NONE) {
            return lines;
        }
        if (i < 0 || i >= lines || what < 0 || what >= Load.WIDTH) {
            return NONE;
        }
        return now.load.field(i, what);
    }

    public long block(int what) {
        switch (what) {
            case 0: return now.load.imported;
            case 1: return now.load.exported;
            case 2: return now.load.apparent;
            case 3: return now.load.metered;
            case 4: return now.load.off;
            case 5: return now.load.statusSoFar(now.settings.blockLength());
            default: return NONE;
        }
    }

    public long demand(int what) {
        if (what == 0) {
            return now.demand.latest;
        }
        return what == 1 ? now.demand.latestTime : NONE;
    }

    public long greatest(int tariff, int what) {
        if (!isTariff(tariff)) {
            return NONE;
        }
        if (what == 0) {
            return now.demand.most[tariff];
        }
        return what == 1 ? now.demand.mostTimes[tariff] : NONE;
    }

    public long billed(int i, int register, int tariff) {
        if (!now.registers.isBill(i) || !isRegister(register) || !isTariffOrAll(tariff)) {
            return NONE;
        }
        return now.registers.billedSum(i, register, tariff);
    }

    public long bills(int i, int what) {
        if (!now.registers.isBill(i) || what < 0 || what > TARIFFS) {
            return NONE;
        }
        return what == 0 ? now.registers.billTime(i) : now.registers.billMost(i, what - 1);
    }

    public long money(int i, int what) {
        if (!now.registers.isBill(i) || what < 0 || what > 1) {
            return NONE;
        }
        // EXCESS counts by 100, so all of it is held in hundredths.
        long above = now.registers.moneyHundredths(i, now.settings);
        long below = 100L * now.settings.unit();
        long divisor = commonDivisor(above, below);
        return (what == 0 ? above : below) / divisor;
    }

    public long would(int n, int what) {
        if (n < 1 || n > MOST_AGAIN || what < 0 || what > 6) {
            return NO_NUMBER;
        }
        thought.copyFrom(now);
        thought.meterTimes(n);
        switch (what) {
            case 0: return thought.totalReading(IMPORT);
            case 1: return thought.totalReading(EXPORT);
            case 2: return thought.credit;
            case 3: return thought.demand.mostOfAll();
            case 4: return thought.marks.on;
            case 5: return thought.open ? 1 : 0;
            default: return thought.time;
        }
    }

    public long cost(int n) {
        if (n < 1 || n > MOST_SECONDS || now.time + n - 1 > LAST_TIME) {
            return NONE;
        }
        return now.calendar.costOf(now.time, n, now.settings);
    }

    public long cheapest(int n, int what) {
        if (n < 1 || n > MOST_SECONDS || what < 0 || what > 1) {
            return NONE;
        }
        if (now.time + (STARTS - 1) * START_STEP + n - 1 > LAST_TIME) {
            return NONE;
        }
        int bestTime = now.time;
        long bestCost = now.calendar.costOf(bestTime, n, now.settings);
        for (int k = 1; k < STARTS; k++) {
            int start = now.time + k * START_STEP;
            long price = now.calendar.costOf(start, n, now.settings);
            if (price < bestCost) {
                bestCost = price;
                bestTime = start;
            }
        }
        return what == 0 ? bestTime : bestCost;
    }

    public int lasts() {
        if (now.open) {
            return 0;
        }
        if (!now.prepaid) {
            return NONE;
        }
        thought.copyFrom(now);
        return thought.secondsTillOpen(MOST_LASTING);
    }

    public long lost(int what) {
        return what >= 0 && what < Load.LOST ? now.load.lostSums[what] : NONE;
    }

    public long best(int m, int what) {
        if (m < 1 || m > now.load.linesKept() || what < 0 || what > 1) {
            return NONE;
        }
        int newest = now.load.bestRun(m);
        return what == 0 ? now.load.importOf(newest, m) : now.load.field(newest, Load.TIME);
    }

    public long between(int from, int to) {
        long sum = 0;
        int lines = now.load.linesKept();
        for (int i = 0; i < lines; i++) {
            long time = now.load.field(i, Load.TIME);
            if (time > from && time <= to) {
                sum += now.load.field(i, Load.IMPORTED);
            }
        }
        return sum;
    }

    public int log(int i, int what) {
        if (i < 0 || i >= now.logbook.linesKept() || what < 0 || what >= Logbook.WIDTH) {
            return NONE;
        }
        return now.logbook.field(i, what);
    }

    public int holds(int day, int tariff) {
        if (!isDay(day) || !isTariff(tariff)) {
            return NONE;
        }
        return now.calendar.secondsHeld(now.calendar.tableFor(day), tariff);
    }

    public boolean image(boolean taken) {
        if (taken) {
            kept.copyFrom(now);
            imageIs = true;
        } else if (imageIs) {
            now.copyFrom(kept);
        }
        return imageIs;
    }

    public long look(int what) {
        if (what < 0) {
            return NO_NUMBER;
        }
        if (what <= 7) {
            return lookAtMeter(what);
        }
        if (what <= 15) {
            return lookAtCounts(what);
        }
        if (what >= 40 && what <= 43) {
            return now.calendar.begins[what - 40];
        }
        if (what >= 53) {
            return lookAtSeal(what);
        }
        int setting = settingLookedAt(what);
        return setting == NONE ? NO_NUMBER : now.settings.value(setting);
    }

    private long lookAtMeter(int what) {
        switch (what) {
            case 0: return now.time;
            case 1: return now.calendar.tariffOn(now.time);
            case 2: return now.credit;
            case 3: return now.prepaid ? 1 : 0;
            case 4: return now.open ? 1 : 0;
            case 5: return now.metered;
            case 6: return now.creep;
            case 7: return now.offSeconds;
            default: return NO_NUMBER;
        }
    }

    private long lookAtCounts(int what) {
        switch (what) {
            case 8: return now.marks.on;
            case 9: return now.logbook.count;
            case 10: return now.load.count;
            case 11: return now.registers.bills;
            case 12: return now.wave.phases;
            case 13: return now.wave.samples;
            case 14: return now.wave.come;
            case 15: return now.calendar.specials;
            default: return NO_NUMBER;
        }
    }

    private long lookAtSeal(int what) {
        switch (what) {
            case 53: return now.seal.closed ? 1 : 0;
            case 54: return now.seal.wrong;
            case 55: return now.seal.lockedFor(now.time);
            case 56: return now.seal.refused;
            case 57: return text.length;
            default: return NO_NUMBER;
        }
    }

    // look() tells what set() takes under other numbers; NONE where it takes nothing.
    private static int settingLookedAt(int what) {
        if (what >= 20 && what <= 25) {
            return what - 20 + START;
        }
        if (what >= 30 && what <= 33) {
            return what - 30 + PRICE;
        }
        if (what >= 50 && what <= 52) {
            return what - 50 + DEMAND_PRICE;
        }
        return NONE;
    }

    // Never 0, so that callers may divide by it.
    private static long commonDivisor(long a, long b) {
        long high = a;
        long low = b;
        for (int k = 0; k < MOST_STEPS && low != 0; k++) {
            long rest = high % low;
            high = low;
            low = rest;
        }
        return high > 0 ? high : 1;
    }

    private static boolean isTable(int table) {
        return table >= 0 && table < Calendar.TABLES;
    }

    private static boolean isTariff(int tariff) {
        return tariff >= 0 && tariff < TARIFFS;
    }

    private static boolean isTariffOrAll(int tariff) {
        return tariff == NONE || isTariff(tariff);
    }

    private static boolean isSeason(int season) {
        return season >= 0 && season < Calendar.SEASONS;
    }

    private static boolean isRegister(int register) {
        return register >= 0 && register < REGISTERS;
    }

    private static boolean isTime(int time) {
        return time >= 0 && time <= LAST_TIME;
    }

    private static boolean isDay(int day) {
        return day >= 0 && day <= LAST_DAY;
    }

    /** What can be told by set(), in one row, so that its bounds can stand beside it. */
    private static final class Settings {
        private static final int COUNT = 13;
        private static final int PRICE_PLACE = 6;
        private static final int DEMAND_PLACE = 10;
        private static final int[] AT_FIRST = {0, 1000, 100, 3, 900, 3, 0, 0, 0, 0, 0, 40, 0};
        private static final int[] LEAST = {0, 1, 0, 0, 60, 1, 0, 0, 0, 0, 0, 0, 0};
        private static final int[] MOST = {1000000, 1000000, 250000, 60, 3600, 6,
            100, 100, 100, 100, 100, 200, 100};

        final int[] values = new int[COUNT];

        Settings() {
            System.arraycopy(AT_FIRST, 0, values, 0, COUNT);
        }

        void copyFrom(Settings other) {
            System.arraycopy(other.values, 0, values, 0, COUNT);
        }

        boolean canBe(int what, int v) {
            int place = placeOf(what);
            if (place == NONE || v < LEAST[place] || v > MOST[place]) {
                return false;
            }
            return what != BLOCK || v == 60 || v == 300 || v == 900 || v == 1800 || v == 3600;
        }

        void tell(int what, int v) {
            int place = placeOf(what);
            if (place != NONE) {
                values[place] = v;
            }
        }

        void tellPrices(int[] prices) {
            System.arraycopy(prices, 0, values, PRICE_PLACE, TARIFFS);
        }

        int value(int what) {
            int place = placeOf(what);
            return place == NONE ? NONE : values[place];
        }

        int start() {
            return values[START];
        }

        int low() {
            return values[LOW];
        }

        int delay() {
            return values[DELAY];
        }

        int window() {
            return values[WINDOW];
        }

        int priceOf(int tariff) {
            return values[PRICE_PLACE + tariff];
        }

        // A divisor: never below 1, as canBe() lets none in.
        int unit() {
            return Math.max(1, values[UNIT]);
        }

        int blockLength() {
            return Math.max(1, values[BLOCK]);
        }

        private static int placeOf(int what) {
            if (what >= START && what <= WINDOW) {
                return what;
            }
            if (what >= PRICE && what < PRICE + TARIFFS) {
                return what - PRICE + PRICE_PLACE;
            }
            if (what >= DEMAND_PRICE && what <= EXCESS_PRICE) {
                return what - DEMAND_PRICE + DEMAND_PLACE;
            }
            return NONE;
        }
    }

    /** TABLES, SEASONS and SPECIAL days: which TARIFF holds when. */
    private static final class Calendar {
        static final int TABLES = 8;
        static final int SWITCHES = 6;
        static final int SEASONS = 4;
        static final int SPECIALS = 16;
        private static final int DAYS_AHEAD = 14;
        // Of each DAY ahead its beginning and its SWITCHES.
        private static final int MOST_PIECES = (DAYS_AHEAD + 1) * (SWITCHES + 1);

        final int[] counts = new int[TABLES];
        final int[] seconds = new int[TABLES * SWITCHES];
        final int[] tariffs = new int[TABLES * SWITCHES];
        final int[] begins = new int[SEASONS];
        final int[] weeks = new int[SEASONS * WEEK_DAYS];
        final int[] specialDays = new int[SPECIALS];
        final int[] specialTables = new int[SPECIALS];
        int specials;

        Calendar() {
            clearAll();
        }

        void clearAll() {
            Arrays.fill(counts, 0);
            Arrays.fill(begins, NONE);
            begins[0] = 0;
            Arrays.fill(weeks, 0);
            specials = 0;
        }

        void copyFrom(Calendar other) {
            System.arraycopy(other.counts, 0, counts, 0, counts.length);
            System.arraycopy(other.seconds, 0, seconds, 0, seconds.length);
            System.arraycopy(other.tariffs, 0, tariffs, 0, tariffs.length);
            System.arraycopy(other.begins, 0, begins, 0, begins.length);
            System.arraycopy(other.weeks, 0, weeks, 0, weeks.length);
            System.arraycopy(other.specialDays, 0, specialDays, 0, SPECIALS);
            System.arraycopy(other.specialTables, 0, specialTables, 0, SPECIALS);
            specials = other.specials;
        }

        boolean hasSwitch(int table, int second) {
            int slot = table * SWITCHES + switchesBefore(table, second);
            int behind = table * SWITCHES + counts[table];
            return slot < behind && seconds[slot] == second;
        }

        // SWITCHES stand by their seconds, so that switching() and tariffIn() find them so.
        int putSwitch(int table, int second, int tariff) {
            int first = table * SWITCHES;
            int slot = first + switchesBefore(table, second);
            if (hasSwitch(table, second)) {
                tariffs[slot] = tariff;
                return counts[table];
            }
            if (counts[table] >= SWITCHES) {
                return NONE;
            }
            for (int k = first + counts[table]; k > slot; k--) {
                seconds[k] = seconds[k - 1];
                tariffs[k] = tariffs[k - 1];
            }
            seconds[slot] = second;
            tariffs[slot] = tariff;
            counts[table]++;
            return counts[table];
        }

        int dropSwitches(int table) {
            int count = counts[table];
            counts[table] = 0;
            return count;
        }

        private int switchesBefore(int table, int second) {
            int first = table * SWITCHES;
            int before = 0;
            while (before < counts[table] && seconds[first + before] < second) {
                before++;
            }
            return before;
        }

        private int specialPlace(int day) {
            for (int k = 0; k < specials; k++) {
                if (specialDays[k] == day) {
                    return k;
                }
            }
            return NONE;
        }

        boolean isSpecial(int day) {
            return specialPlace(day) != NONE;
        }

        boolean putSpecial(int day, int table) {
            int place = specialPlace(day);
            if (place == NONE) {
                if (specials >= SPECIALS) {
                    return false;
                }
                place = specials;
                specials++;
            }
            specialDays[place] = day;
            specialTables[place] = table;
            return true;
        }

        boolean dropSpecial(int day) {
            int place = specialPlace(day);
            if (place == NONE) {
                return false;
            }
            specials--;
            specialDays[place] = specialDays[specials];
            specialTables[place] = specialTables[specials];
            return true;
        }

        private int seasonOf(int yearDay) {
            int begun = NONE;
            int last = 0;
            for (int s = 0; s < SEASONS; s++) {
                if (begins[s] == NONE) {
                    continue;
                }
                if (begins[s] <= yearDay && (begun == NONE || begins[s] > begins[begun])) {
                    begun = s;
                }
                if (begins[s] > begins[last]) {
                    last = s;
                }
            }
            return begun == NONE ? last : begun;
        }

        int tableFor(int day) {
            int place = specialPlace(day % YEAR_DAYS);
            if (place != NONE) {
                return specialTables[place];
            }
            return weeks[seasonOf(day % YEAR_DAYS) * WEEK_DAYS + day % WEEK_DAYS];
        }

        private int tariffIn(int table, int second) {
            int before = switchesBefore(table, second + 1);
            return before == 0 ? 0 : tariffs[table * SWITCHES + before - 1];
        }

        int tariffOn(int time) {
            return tariffIn(tableFor(time / DAY_SECONDS), time % DAY_SECONDS);
        }

        // The next TIME at which a SWITCH or a new DAY may change the TARIFF.
        int heldUntil(int time) {
            int day = time / DAY_SECONDS;
            int table = tableFor(day);
            int before = switchesBefore(table, time % DAY_SECONDS + 1);
            int second = before < counts[table] ? seconds[table * SWITCHES + before] : DAY_SECONDS;
            return day * DAY_SECONDS + second;
        }

        int changeAfter(int time) {
            int last = Math.min((time / DAY_SECONDS + DAYS_AHEAD + 1) * DAY_SECONDS - 1, LAST_TIME);
            int tariff = tariffOn(time);
            int tried = heldUntil(time);
            for (int k = 0; k < MOST_PIECES && tried <= last; k++) {
                if (tariffOn(tried) != tariff) {
                    return tried;
                }
                tried = heldUntil(tried);
            }
            return NONE;
        }

        long costOf(int from, int n, Settings settings) {
            int behind = from + n;
            int time = from;
            long sum = 0;
            for (int k = 0; k < n && time < behind; k++) {
                int until = Math.min(heldUntil(time), behind);
                sum += (long) settings.priceOf(tariffOn(time)) * (until - time);
                time = until;
            }
            return sum;
        }

        int secondsHeld(int table, int tariff) {
            int first = table * SWITCHES;
            int sum = 0;
            int since = 0;
            int holding = 0;
            for (int k = first; k < first + counts[table]; k++) {
                if (holding == tariff) {
                    sum += seconds[k] - since;
                }
                since = seconds[k];
                holding = tariffs[k];
            }
            return holding == tariff ? sum + DAY_SECONDS - since : sum;
        }
    }

    /** THE TAPE, and the reading of the CALENDAR's TEXT from it into a draft. */
    private static final class CalendarText {
        private static final int ROOM = 300;
        private static final int FED = 20;
        private static final int NOT_HERE = 1;
        private static final int NO_SUCH_NUMBER = 2;
        private static final int TOLD_ALREADY = 3;
        private static final int TOO_MANY = 4;
        // No number of the TEXT may be so great; more digits would leave an int.
        private static final int TOO_GREAT = 1000000;

        final int[] tape = new int[ROOM];
        final Calendar draft = new Calendar();
        final int[] prices = new int[TARIFFS];
        int length;
        int fault;
        int faultPlace = NONE;
        boolean priced;
        private int place;
        private int tokenPlace;
        private int tablesTold;
        private int seasonsTold;

        boolean hasRoom() {
            return length + FED <= ROOM;
        }

        void putBytes(int number) {
            for (int shift = 24; shift >= 0 && length < ROOM; shift -= 8) {
                tape[length] = number >>> shift & 255;
                length++;
            }
        }

        boolean cutTo(int n) {
            if (n < 0 || n > length) {
                return false;
            }
            length = n;
            return true;
        }

        void forget() {
            length = 0;
            fault = 0;
            faultPlace = NONE;
        }

        int readAll() {
            draft.clearAll();
            fault = 0;
            faultPlace = NONE;
            priced = false;
            place = 0;
            tablesTold = 0;
            seasonsTold = 0;
            int lines = 0;
            skipBlanks();
            for (int k = 0; k <= ROOM && place < length && fault == 0; k++) {
                if (readLine() && readSign(';')) {
                    lines++;
                    skipBlanks();
                }
            }
            length = 0;
            return fault == 0 ? lines : NONE;
        }

        private boolean fail(int kind, int at) {
            fault = kind;
            faultPlace = at;
            return false;
        }

        private boolean readLine() {
            int letters = lettersHere();
            if (spells("table", letters)) {
                return readTable();
            }
            if (spells("season", letters)) {
                return readSeason();
            }
            if (spells("special", letters)) {
                return readSpecial();
            }
            if (spells("price", letters)) {
                return readPrices();
            }
            return fail(NOT_HERE, place);
        }

        private boolean readTable() {
            passWord("table");
            int table = readNewNumber(Calendar.TABLES - 1, tablesTold);
            if (table == NONE) {
                return false;
            }
            tablesTold |= 1 << table;
            for (int k = 0; k <= Calendar.SWITCHES && digitHere(); k++) {
                if (!readSwitch(table)) {
                    return false;
                }
            }
            return true;
        }

        private boolean readSwitch(int table) {
            int hour = readNumber(23);
            if (hour == NONE) {
                return false;
            }
            if (draft.counts[table] >= Calendar.SWITCHES) {
                return fail(TOO_MANY, tokenPlace);
            }
            if (!readSign(':')) {
                return false;
            }
            int minute = readNumber(59);
            if (minute == NONE) {
                return false;
            }
            int second = hour * 3600 + minute * 60;
            if (draft.hasSwitch(table, second)) {
                return fail(TOLD_ALREADY, tokenPlace);
            }
            int tariff = readNumber(TARIFFS - 1);
            if (tariff == NONE) {
                return false;
            }
            draft.putSwitch(table, second, tariff);
            return true;
        }

        private boolean readSeason() {
            passWord("season");
            int season = readNewNumber(Calendar.SEASONS - 1, seasonsTold);
            if (season == NONE) {
                return false;
            }
            seasonsTold |= 1 << season;
            int day = readNumber(YEAR_DAYS - 1);
            if (day == NONE) {
                return false;
            }
            draft.begins[season] = day;
            for (int k = 0; k < WEEK_DAYS; k++) {
                int table = readNumber(Calendar.TABLES - 1);
                if (table == NONE) {
                    return false;
                }
                draft.weeks[season * WEEK_DAYS + k] = table;
            }
            return true;
        }

        private boolean readSpecial() {
            if (draft.specials >= Calendar.SPECIALS) {
                return fail(TOO_MANY, place);
            }
            passWord("special");
            int day = readNumber(YEAR_DAYS - 1);
            if (day == NONE) {
                return false;
            }
            if (draft.isSpecial(day)) {
                return fail(TOLD_ALREADY, tokenPlace);
            }
            int table = readNumber(Calendar.TABLES - 1);
            return table != NONE && draft.putSpecial(day, table);
        }

        private boolean readPrices() {
            if (priced) {
                return fail(TOLD_ALREADY, place);
            }
            passWord("price");
            for (int t = 0; t < TARIFFS; t++) {
                int price = readNumber(100);
                if (price == NONE) {
                    return false;
                }
                prices[t] = price;
            }
            priced = true;
            return true;
        }

        private void skipBlanks() {
            while (place < length && tape[place] == ' ') {
                place++;
            }
        }

        private int lettersHere() {
            int behind = place;
            while (behind < length && tape[behind] >= 'a' && tape[behind] <= 'z') {
                behind++;
            }
            return behind - place;
        }

        private boolean spells(String word, int letters) {
            if (letters != word.length() || place + letters > length) {
                return false;
            }
            for (int k = 0; k < letters; k++) {
                if (tape[place + k] != word.charAt(k)) {
                    return false;
                }
            }
            return true;
        }

        private void passWord(String word) {
            place += word.length();
        }

        private static boolean isDigit(int sign) {
            return sign >= '0' && sign <= '9';
        }

        private boolean digitHere() {
            skipBlanks();
            return place < length && isDigit(tape[place]);
        }

        // NONE, and a FAULT, unless a number 0 .. most stands here.
        private int readNumber(int most) {
            skipBlanks();
            tokenPlace = place;
            int number = 0;
            while (place < length && isDigit(tape[place])) {
                number = Math.min(number * 10 + tape[place] - '0', TOO_GREAT);
                place++;
            }
            if (place == tokenPlace) {
                fail(NOT_HERE, tokenPlace);
                return NONE;
            }
            if (number > most) {
                fail(NO_SUCH_NUMBER, tokenPlace);
                return NONE;
            }
            return number;
        }

        // As readNumber(), but one whose bit says that it is told already is a FAULT too.
        private int readNewNumber(int most, int told) {
            int number = readNumber(most);
            if (number != NONE && (told >> number & 1) == 1) {
                fail(TOLD_ALREADY, tokenPlace);
                return NONE;
            }
            return number;
        }

        private boolean readSign(char sign) {
            skipBlanks();
            if (place >= length || tape[place] != sign) {
                return fail(NOT_HERE, place);
            }
            place++;
            return true;
        }
    }

    /** SAMPLES as they come, and the sums of THE PERIOD. */
    private static final class Wave {
        private static final int MOST_PHASES = 3;
        private static final int MOST_SAMPLES = 16;
        // A row of sums: one for each PHASE, and behind them all together.
        private static final int ROW = MOST_PHASES + 1;
        private static final int TOGETHER = MOST_PHASES;
        private static final int ACTIVE = 0;
        private static final int REACTIVE = 1;
        private static final int VOLTS = 2;
        private static final int AMPERES = 3;

        final int[] u = new int[MOST_PHASES * MOST_SAMPLES];
        final int[] i = new int[MOST_PHASES * MOST_SAMPLES];
        final long[] sums = new long[4 * ROW];
        int phases = 1;
        int samples = 8;
        int come;
        long apparent;

        void copyFrom(Wave other) {
            System.arraycopy(other.u, 0, u, 0, u.length);
            System.arraycopy(other.i, 0, i, 0, i.length);
            System.arraycopy(other.sums, 0, sums, 0, sums.length);
            phases = other.phases;
            samples = other.samples;
            come = other.come;
            apparent = other.apparent;
        }

        boolean tellShape(int p, int n) {
            if (p < 1 || p > MOST_PHASES || n < 4 || n > MOST_SAMPLES || n % 4 != 0) {
                return false;
            }
            phases = p;
            samples = n;
            come = 0;
            apparent = 0;
            Arrays.fill(sums, 0);
            return true;
        }

        // True as THE PERIOD is whole with it.
        boolean takeSample(int voltage, int current) {
            u[come] = voltage;
            i[come] = current;
            come++;
            if (come < phases * samples) {
                return false;
            }
            come = 0;
            sumUp();
            return true;
        }

        private void sumUp() {
            Arrays.fill(sums, 0);
            int quarter = samples / 4;
            for (int k = 0; k < samples; k++) {
                int later = (k + quarter) % samples;
                for (int f = 0; f < phases; f++) {
                    int at = k * phases + f;
                    addTo(ACTIVE, f, u[at] * i[at]);
                    addTo(REACTIVE, f, u[at] * i[later * phases + f]);
                    addTo(VOLTS, f, u[at] * u[at]);
                    addTo(AMPERES, f, i[at] * i[at]);
                }
            }
            apparent = apparentOf(TOGETHER);
        }

        private void addTo(int what, int phase, int amount) {
            sums[what * ROW + phase] += amount;
            sums[what * ROW + TOGETHER] += amount;
        }

        long active() {
            return sums[ACTIVE * ROW + TOGETHER];
        }

        long reactive() {
            return sums[REACTIVE * ROW + TOGETHER];
        }

        private long apparentOf(int column) {
            long p = sums[ACTIVE * ROW + column];
            long q = sums[REACTIVE * ROW + column];
            return wholeRoot(p * p + q * q);
        }

        static int quadrantOf(long p, long q) {
            if (p >= 0) {
                return q >= 0 ? 1 : 4;
            }
            return q >= 0 ? 2 : 3;
        }

        long tell(int phase, int what) {
            int column = phase == NONE ? TOGETHER : phase;
            long p = sums[ACTIVE * ROW + column];
            switch (what) {
                case 4: return apparentOf(column);
                case 5: return quadrantOf(p, sums[REACTIVE * ROW + column]);
                case 6: return rootMean(VOLTS, phase);
                case 7: return rootMean(AMPERES, phase);
                case 8: return factor(p, apparentOf(column));
                default: return what >= ACTIVE && what <= AMPERES ? sums[what * ROW + column] : NONE;
            }
        }

        private static long factor(long p, long s) {
            return s == 0 ? 0 : 1000 * p / s;
        }

        private long rootMean(int what, int phase) {
            long greatest = 0;
            for (int f = 0; f < phases; f++) {
                if (phase == NONE || phase == f) {
                    greatest = Math.max(greatest, sums[what * ROW + f]);
                }
            }
            return wholeRoot(greatest / Math.max(1, samples));
        }

        // P and Q stay below 2^24, so the root of their squares fits below 2^26.
        private static long wholeRoot(long square) {
            long root = 0;
            for (int bit = 25; bit >= 0; bit--) {
                long tried = root + (1L << bit);
                if (tried * tried <= square) {
                    root = tried;
                }
            }
            return root;
        }

        // Bits of MARKS 2 to 4 that are so in THE PERIOD.
        int marksSeen(int low) {
            boolean weak = false;
            boolean strong = false;
            boolean above = false;
            boolean below = false;
            boolean strange = false;
            for (int f = 0; f < phases; f++) {
                long volts = sums[VOLTS * ROW + f];
                long active = sums[ACTIVE * ROW + f];
                boolean isWeak = volts < (long) samples * low;
                weak = weak || isWeak;
                strong = strong || !isWeak;
                above = above || active > 0;
                below = below || active < 0;
                strange = strange || volts == 0 && sums[AMPERES * ROW + f] > 0;
            }
            return (weak && strong ? 4 : 0) | (above && below ? 8 : 0) | (strange ? 16 : 0);
        }
    }

    /** RAW of REGISTERS by TARIFFS, and of each BILL what came since the one ahead. */
    private static final class Registers {
        private static final int CELLS = REGISTERS * TARIFFS;
        private static final int BILLS = 6;
        // A BILL's row: RAW that came, GREATEST DEMANDS, TIME.
        private static final int MOST_AT = CELLS;
        private static final int TIME_AT = CELLS + TARIFFS;
        private static final int ROW = TIME_AT + 1;

        final long[] raw = new long[CELLS];
        final long[] atBill = new long[CELLS];
        final long[] rows = new long[BILLS * ROW];
        int bills;

        void copyFrom(Registers other) {
            System.arraycopy(other.raw, 0, raw, 0, CELLS);
            System.arraycopy(other.atBill, 0, atBill, 0, CELLS);
            System.arraycopy(other.rows, 0, rows, 0, rows.length);
            bills = other.bills;
        }

        void count(int tariff, long p, long q, long s) {
            if (p > 0) {
                raw[IMPORT * TARIFFS + tariff] += p;
            } else {
                raw[EXPORT * TARIFFS + tariff] -= p;
            }
            int register = QUADRANT_1 + Wave.quadrantOf(p, q) - 1;
            raw[register * TARIFFS + tariff] += Math.abs(q);
            raw[APPARENT * TARIFFS + tariff] += s;
        }

        long importOf(int tariff) {
            return raw[IMPORT * TARIFFS + tariff];
        }

        long sum(int register, int tariff) {
            return sumIn(raw, register * TARIFFS, tariff);
        }

        private static long sumIn(long[] cells, int first, int tariff) {
            if (tariff != NONE) {
                return cells[first + tariff];
            }
            long all = 0;
            for (int t = 0; t < TARIFFS; t++) {
                all += cells[first + t];
            }
            return all;
        }

        void keepBill(int time, Demand demand) {
            int row = bills % BILLS * ROW;
            for (int c = 0; c < CELLS; c++) {
                rows[row + c] = raw[c] - atBill[c];
                atBill[c] = raw[c];
            }
            System.arraycopy(demand.most, 0, rows, row + MOST_AT, TARIFFS);
            rows[row + TIME_AT] = time;
            bills++;
        }

        boolean isBill(int i) {
            return i >= 0 && i < Math.min(bills, BILLS);
        }

        private int rowOf(int i) {
            return (bills - 1 - i) % BILLS * ROW;
        }

        long billTime(int i) {
            return rows[rowOf(i) + TIME_AT];
        }

        long billMost(int i, int tariff) {
            return rows[rowOf(i) + MOST_AT + tariff];
        }

        long billedSum(int i, int register, int tariff) {
            return sumIn(rows, rowOf(i) + register * TARIFFS, tariff);
        }

        long moneyHundredths(int i, Settings settings) {
            long sum = 0;
            long most = 0;
            for (int t = 0; t < TARIFFS; t++) {
                sum += billedSum(i, IMPORT, t) * settings.priceOf(t);
                most = Math.max(most, billMost(i, t));
            }
            sum += most * settings.value(DEMAND_PRICE);
            long reactive = billedSum(i, QUADRANT_1, NONE) + billedSum(i, QUADRANT_4, NONE);
            long excess = reactive * 100 - billedSum(i, IMPORT, NONE) * settings.value(LIMIT);
            return sum * 100 + Math.max(0, excess) * settings.value(EXCESS_PRICE);
        }
    }

    /** THE LOAD, and the BLOCK that goes on. */
    private static final class Load {
        static final int TIME = 0;
        static final int IMPORTED = 1;
        static final int STATUS = 5;
        static final int WIDTH = 6;
        static final int LOST = 4;
        private static final int KEPT = 64;

        final long[] lines = new long[KEPT * WIDTH];
        final long[] lostSums = new long[LOST];
        int count;
        long imported;
        long exported;
        long apparent;
        int metered;
        int off;
        int marksOn;
        int began;

        void copyFrom(Load other) {
            System.arraycopy(other.lines, 0, lines, 0, lines.length);
            System.arraycopy(other.lostSums, 0, lostSums, 0, LOST);
            count = other.count;
            imported = other.imported;
            exported = other.exported;
            apparent = other.apparent;
            metered = other.metered;
            off = other.off;
            marksOn = other.marksOn;
            began = other.began;
        }

        int linesKept() {
            return Math.min(count, KEPT);
        }

        long field(int i, int what) {
            return lines[(count - 1 - i) % KEPT * WIDTH + what];
        }

        void addPower(long p, long s) {
            if (p > 0) {
                imported += p;
            } else {
                exported -= p;
            }
            apparent += s;
        }

        void addMetered(int n, int marks) {
            metered += n;
            marksOn |= marks;
        }

        void addOff(int n, int marks) {
            off += n;
            marksOn |= marks;
        }

        int statusSoFar(int block) {
            int status = marksOn;
            if (off > 0) {
                status |= STATUS_OFF;
            }
            return began % block != 0 ? status | STATUS_PARTIAL : status;
        }

        void endBlock(int time, int block, int told) {
            if (metered + off > 0) {
                int status = statusSoFar(block) | told;
                addLine(time, time % block != 0 ? status | STATUS_PARTIAL : status);
            }
            imported = 0;
            exported = 0;
            apparent = 0;
            metered = 0;
            off = 0;
            marksOn = 0;
            began = time;
        }

        private void addLine(int time, int status) {
            int row = count % KEPT * WIDTH;
            // A row never written holds zeros, so nothing is lost with it.
            for (int k = 0; k < LOST; k++) {
                lostSums[k] += lines[row + IMPORTED + k];
            }
            lines[row + TIME] = time;
            lines[row + IMPORTED] = imported;
            lines[row + 2] = exported;
            lines[row + 3] = apparent;
            lines[row + 4] = metered;
            lines[row + STATUS] = status;
            count++;
        }

        // IMPORT of m lines, the newest of them line i.
        long importOf(int i, int m) {
            long sum = 0;
            for (int k = i; k < i + m; k++) {
                sum += field(k, IMPORTED);
            }
            return sum;
        }

        int bestRun(int m) {
            long sum = importOf(0, m);
            long greatest = sum;
            int best = 0;
            for (int i = 1; i + m <= linesKept(); i++) {
                sum += field(i + m - 1, IMPORTED) - field(i - 1, IMPORTED);
                if (sum > greatest) {
                    greatest = sum;
                    best = i;
                }
            }
            return best;
        }
    }

    /** The latest DEMAND, and GREATEST DEMANDS by TARIFFS. */
    private static final class Demand {
        final long[] most = new long[TARIFFS];
        final int[] mostTimes = new int[TARIFFS];
        long latest = NONE;
        int latestTime = NONE;

        Demand() {
            clearMost();
        }

        void clearMost() {
            Arrays.fill(most, NONE);
            Arrays.fill(mostTimes, NONE);
        }

        void copyFrom(Demand other) {
            System.arraycopy(other.most, 0, most, 0, TARIFFS);
            System.arraycopy(other.mostTimes, 0, mostTimes, 0, TARIFFS);
            latest = other.latest;
            latestTime = other.latestTime;
        }

        void blockEnded(Load load, int window, int block, int tariff) {
            if (!windowIsWhole(load, window, block)) {
                return;
            }
            latest = load.importOf(0, window);
            latestTime = (int) load.field(0, Load.TIME);
            if (latest > most[tariff]) {
                most[tariff] = latest;
                mostTimes[tariff] = latestTime;
            }
        }

        private static boolean windowIsWhole(Load load, int window, int block) {
            if (load.linesKept() < window) {
                return false;
            }
            for (int i = 0; i < window; i++) {
                if ((load.field(i, Load.STATUS) & (STATUS_TOLD | STATUS_PARTIAL)) != 0) {
                    return false;
                }
                if (i > 0 && load.field(i - 1, Load.TIME) - load.field(i, Load.TIME) != block) {
                    return false;
                }
            }
            return true;
        }

        long mostOfAll() {
            long all = NONE;
            for (int t = 0; t < TARIFFS; t++) {
                all = Math.max(all, most[t]);
            }
            return all;
        }
    }

    /** MARKS of tampering. */
    private static final class Marks {
        static final int BY_HAND = 2;
        static final int ALL = 5;
        private static final int OFF_LINE = 10;

        final int[] comings = new int[ALL];
        final int[] seconds = new int[ALL];
        final int[] lengths = new int[ALL];
        int on;

        void copyFrom(Marks other) {
            System.arraycopy(other.comings, 0, comings, 0, ALL);
            System.arraycopy(other.seconds, 0, seconds, 0, ALL);
            System.arraycopy(other.lengths, 0, lengths, 0, ALL);
            on = other.on;
        }

        boolean isOn(int mark) {
            return (on >> mark & 1) == 1;
        }

        void turn(int mark, boolean toOn, Logbook logbook, int time) {
            if (toOn) {
                on |= 1 << mark;
                comings[mark]++;
                logbook.add(time, mark, 0);
            } else {
                on &= ~(1 << mark);
                logbook.add(time, mark + OFF_LINE, 0);
            }
        }

        void beginAnew(Logbook logbook, int time) {
            for (int m = BY_HAND; m < ALL; m++) {
                lengths[m] = 0;
                if (isOn(m)) {
                    turn(m, false, logbook, time);
                }
            }
        }

        // How many SECONDS of one kind go by, the last of them the first to turn a MARK.
        int secondsToTurn(int seen, int delay, int most) {
            int fewest = most;
            for (int m = BY_HAND; m < ALL; m++) {
                boolean so = (seen >> m & 1) == 1;
                if (isOn(m) && !so) {
                    return 1;
                }
                if (!isOn(m) && so) {
                    fewest = Math.min(fewest, Math.max(1, delay + 1 - lengths[m]));
                }
            }
            return fewest;
        }

        // n SECONDS, of which none but the last, at that TIME, turns a MARK.
        void passSeconds(int n, int seen, int delay, Logbook logbook, int time) {
            for (int m = 0; m < ALL; m++) {
                boolean wasOn = isOn(m);
                if (m >= BY_HAND) {
                    boolean so = (seen >> m & 1) == 1;
                    lengths[m] = so ? lengths[m] + n : 0;
                    if (wasOn ? !so : so && lengths[m] > delay) {
                        turn(m, !wasOn, logbook, time);
                    }
                }
                if (isOn(m)) {
                    seconds[m] += wasOn ? n : 1;
                }
            }
        }
    }

    /** THE LOGBOOK. */
    private static final class Logbook {
        static final int WIDTH = 3;
        private static final int KEPT = 40;

        final int[] lines = new int[KEPT * WIDTH];
        int count;

        void copyFrom(Logbook other) {
            System.arraycopy(other.lines, 0, lines, 0, lines.length);
            count = other.count;
        }

        int linesKept() {
            return Math.min(count, KEPT);
        }

        int field(int i, int what) {
            return lines[(count - 1 - i) % KEPT * WIDTH + what];
        }

        void add(int time, int what, int number) {
            int row = count % KEPT * WIDTH;
            lines[row] = time;
            lines[row + 1] = what;
            lines[row + 2] = number;
            count++;
        }
    }

    /** The seal, and what came of codes and of calls that it refused. */
    private static final class Seal {
        private static final int MOST_CODE = 9999;
        private static final int WRONG_LOCKS = 3;
        private static final int LOCK_SECONDS = 300;

        boolean closed;
        int code;
        int wrong;
        int refused;
        int lockedUntil;

        void copyFrom(Seal other) {
            closed = other.closed;
            code = other.code;
            wrong = other.wrong;
            refused = other.refused;
            lockedUntil = other.lockedUntil;
        }

        boolean refuses() {
            if (closed) {
                refused++;
            }
            return closed;
        }

        boolean close(int newCode) {
            if (closed || newCode < 0 || newCode > MOST_CODE) {
                return false;
            }
            closed = true;
            code = newCode;
            return true;
        }

        int lockedFor(int time) {
            return Math.max(0, lockedUntil - time);
        }

        void breakOpen() {
            closed = false;
            wrong = 0;
            // A clock moved back later must not find the old lock again.
            lockedUntil = 0;
        }

        boolean isLockDue() {
            return wrong >= WRONG_LOCKS;
        }

        void lock(int time) {
            wrong = 0;
            lockedUntil = time + LOCK_SECONDS;
        }
    }

    /** All that is and was told but THE TAPE: one is now, one THE IMAGE, one IN THOUGHT. */
    private static final class Meter {
        final Settings settings = new Settings();
        final Calendar calendar = new Calendar();
        final Wave wave = new Wave();
        final Registers registers = new Registers();
        final Load load = new Load();
        final Demand demand = new Demand();
        final Marks marks = new Marks();
        final Logbook logbook = new Logbook();
        final Seal seal = new Seal();
        int time;
        long credit;
        boolean prepaid;
        boolean open;
        int metered;
        int creep;
        int offSeconds;

        void copyFrom(Meter other) {
            settings.copyFrom(other.settings);
            calendar.copyFrom(other.calendar);
            wave.copyFrom(other.wave);
            registers.copyFrom(other.registers);
            load.copyFrom(other.load);
            demand.copyFrom(other.demand);
            marks.copyFrom(other.marks);
            logbook.copyFrom(other.logbook);
            seal.copyFrom(other.seal);
            time = other.time;
            credit = other.credit;
            prepaid = other.prepaid;
            open = other.open;
            metered = other.metered;
            creep = other.creep;
            offSeconds = other.offSeconds;
        }

        void note(int what, int number) {
            logbook.add(time, what, number);
        }

        long totalReading(int register) {
            return registers.sum(register, NONE) / settings.unit();
        }

        boolean tellSetting(int what, int v) {
            if (!settings.canBe(what, v) || what == UNIT && metered > 0) {
                return false;
            }
            if (what == BLOCK) {
                // It ends by the BLOCK that was, and the next begins by the new one.
                load.endBlock(time, settings.blockLength(), STATUS_TOLD);
            }
            settings.tell(what, v);
            return true;
        }

        boolean tryCode(int code) {
            if (!seal.closed || seal.lockedFor(time) > 0) {
                return false;
            }
            if (code == seal.code) {
                seal.breakOpen();
                note(SEAL_OPENED, 0);
                return true;
            }
            seal.wrong++;
            note(CODE_WRONG, seal.wrong);
            if (seal.isLockDue()) {
                seal.lock(time);
                note(SEAL_LOCKED, 0);
            }
            return false;
        }

        int moveClock(int newTime) {
            int ahead = time;
            load.endBlock(time, settings.blockLength(), STATUS_TOLD);
            time = newTime;
            load.began = newTime;
            note(CLOCK_MOVED, ahead);
            return ahead;
        }

        void makeBill() {
            registers.keepBill(time, demand);
            demand.clearMost();
            note(BILL_MADE, 0);
        }

        void settleSwitch() {
            boolean shallOpen = prepaid && credit <= 0;
            if (shallOpen != open) {
                open = shallOpen;
                note(open ? SWITCH_OPENED : SWITCH_CLOSED, 0);
            }
        }

        void goOff(int n) {
            note(POWER_OFF, n);
            marks.beginAnew(logbook, time);
            wave.come = 0;
            int block = settings.blockLength();
            int left = n;
            for (int k = 0; k < n && left > 0; k++) {
                int passed = Math.min(left, block - time % block);
                load.addOff(passed, marks.on);
                offSeconds += passed;
                time += passed;
                left -= passed;
                endBlockIfDue(calendar.tariffOn(time - 1));
            }
        }

        void meterTimes(int n) {
            int left = n;
            for (int k = 0; k < n && left > 0; k++) {
                left -= meterStretch(left);
            }
        }

        // NONE if the SWITCH is not open behind so many SECONDS.
        int secondsTillOpen(int most) {
            int passed = 0;
            for (int k = 0; k < most && passed < most; k++) {
                passed += meterStretch(most - passed);
                if (open) {
                    return passed;
                }
            }
            return NONE;
        }

        // SECONDS that are alike go in one stretch: only at its last one may anything
        // turn (TARIFF, SWITCH, a MARK, the BLOCK). Answers how many they were.
        private int meterStretch(int most) {
            int tariff = calendar.tariffOn(time);
            int seen = wave.marksSeen(settings.low());
            int n = stretch(most, tariff, seen);
            meterPower(n, tariff);
            metered += n;
            time += n - 1;
            settleSwitch();
            marks.passSeconds(n, seen, settings.delay(), logbook, time);
            load.addMetered(n, marks.on);
            if (time < LAST_TIME) {
                time++;
            }
            endBlockIfDue(tariff);
            return n;
        }

        private int stretch(int most, int tariff, int seen) {
            if (time >= LAST_TIME) {
                return 1;
            }
            int block = settings.blockLength();
            int n = Math.min(most, LAST_TIME - time);
            n = Math.min(n, calendar.heldUntil(time) - time);
            n = Math.min(n, block - time % block);
            n = marks.secondsToTurn(seen, settings.delay(), n);
            return secondsToOpen(tariff, n);
        }

        private boolean isCreeping() {
            int start = settings.start();
            long p = open ? 0 : wave.active();
            long q = open ? 0 : wave.reactive();
            return Math.abs(p) < start && Math.abs(q) < start;
        }

        // Behind how many SECONDS CREDIT is gone, if that is sooner.
        private int secondsToOpen(int tariff, int most) {
            long p = wave.active();
            int price = settings.priceOf(tariff);
            if (!prepaid || open || p <= 0 || price <= 0 || isCreeping()) {
                return most;
            }
            long readings = (credit + price - 1) / price;
            long raw = registers.importOf(tariff);
            long missing = (raw / settings.unit() + readings) * settings.unit() - raw;
            return (int) Math.max(1, Math.min(most, (missing + p - 1) / p));
        }

        private void meterPower(int n, int tariff) {
            if (isCreeping()) {
                creep += n;
                return;
            }
            if (open) {
                return;
            }
            long p = wave.active() * n;
            long s = wave.apparent * n;
            long before = registers.importOf(tariff) / settings.unit();
            registers.count(tariff, p, wave.reactive() * n, s);
            long readings = registers.importOf(tariff) / settings.unit() - before;
            credit -= readings * settings.priceOf(tariff);
            load.addPower(p, s);
        }

        private void endBlockIfDue(int tariff) {
            int block = settings.blockLength();
            if (time % block == 0) {
                load.endBlock(time, block, 0);
                demand.blockEnded(load, settings.window(), block, tariff);
            }
        }
    }
}
