import java.util.ArrayList;
import java.util.HashMap;
import java.util.List;
import java.util.Map;

/**
 * All promises: each call that can't be is answered as the document says, and nothing is changed by it;
 * each call that asks alone changes nothing; each call that is SEALED counts as REFUSED and does nothing else.
 */
public final class RefusedTest {
    // Everything is full: six SWITCHES, 16 SPECIAL days, 64 LINES, 40 lines of THE LOGBOOK, 6 BILLS; MARKS are
    // ON, SAMPLES have come, THE TAPE has bytes, the latest calendar() had a FAULT, there is an IMAGE.
    private static final String[] BUSY = {
        "set(1, 100); set(4, 60); set(5, 2); set(0, 10); set(3, 1); set(10, 3); set(11, 5); set(12, 7); set(13, 9)",
        "set(20, 2); set(22, 4); phases(2, 4)",
        "table(0, 100, 1); table(0, 200, 2); table(0, 300, 3); table(0, 400, 0); table(0, 500, 1); table(0, 86399, 2)",
        "table(1, 0, 3); table(7, 43200, 1); season(1, 30); season(3, 200)",
        "week(0, 1, 1); week(1, 2, 7); week(2, 0, 5); week(3, 6, 1)",
        "special(10, 1); special(11, 2); special(12, 3); special(13, 4); special(14, 5); special(15, 6)",
        "special(16, 7); special(17, 1); special(18, 2); special(19, 3); special(20, 4); special(21, 5)",
        "special(22, 6); special(23, 7); special(24, 1); special(364, 2)",
        "samples(100, 10, 100, -4, 100, 9, 100, 2, 100, 8, 100, -4, 100, 9, 100, -4)",
        "again(130); bill(); again(60); bill(); again(60); bill(); off(4200); again(70); bill(); again(60); bill()",
        "again(120); bill(); again(130); bill(); again(20)",
        "mark(0, true); again(1); mark(0, false); mark(0, true); mark(0, false); mark(1, true); mark(1, false)",
        "mark(0, true); mark(0, false); mark(0, true); mark(0, false); mark(0, true); mark(0, false)",
        "prepaid(true); prepaid(false); prepaid(true); prepaid(false); prepaid(true); prepaid(false); prepaid(true)",
        "prepaid(false); prepaid(true); prepaid(false); prepaid(true); prepaid(false); prepaid(true); prepaid(false)",
        "prepaid(true); prepaid(false); mark(0, true); mark(0, false); mark(0, true); mark(0, false); mark(0, true)",
        "pay(100000); image(true); again(30); prepaid(true); pay(500000)",
        "feed(1, 2, 3, 4, 5); calendar(); samples(1, 2, 3, 4, 5, 6)",
        "tape(table 3 5:30 2;table 0;price 1 2 3 4;)"};
    private static final String[] NEW = {};
    private static final String[] SEALED = with(BUSY, "seal(77)");
    private static final String[] LOCKED = with(SEALED, "open(1); open(2); open(3)");
    private static final String FEED = "feed(1, 2, 3, 4, 5);";
    private static final String[] FULL_TAPE = with(BUSY, "end(20);" + FEED.repeat(14));
    private static final String[] ALMOST_FULL_TAPE = with(FULL_TAPE, "end(281)");
    private static final String[] LATE = {"phases(1, 4); set(4, 60); power(10, 7, 3); move(LAST-5); again(5)"};

    private static final Map<String[], Whole> KNOWN = new HashMap<>();

    private RefusedTest() {
    }

    public static void main(String[] args) {
        theQuestionsSee();
        refused(NEW, CANT_BE);
        refused(BUSY, CANT_BE);
        refused(NEW, NONE_THERE);
        refused(BUSY, FULL);
        refused(LATE, LATE_CALLS);
        refused(FULL_TAPE, "feed(0, 0, 0, 0, 0) NONE; feed(1, 2, 3, 4, 5) NONE; end(301) 0; end(-1) 0; end(300) 1");
        refused(ALMOST_FULL_TAPE, "feed(0, 0, 0, 0, 0) NONE; end(282) 0; end(281) 1");
        refused(SEALED, "seal(77) 0; seal(5) 0; seal(10000) 0; seal(-1) 0; sample(501, 0) NONE; again(0) NONE");
        refused(LOCKED, "open(77) 0; open(1) 0; open(-1) 0; open(10000) 0; seal(77) 0");
        sealedCalls(SEALED);
        sealedCalls(LOCKED);
        sealedCalendar();
        faultChangesNothing();
        asking(BUSY);
        asking(NEW);
        asking(LATE);
        Check.finish();
    }

    private static String[] with(String[] state, String... more) {
        String[] all = new String[state.length + more.length];
        System.arraycopy(state, 0, all, 0, state.length);
        System.arraycopy(more, 0, all, state.length, more.length);
        return all;
    }

    private static Whole known(String[] state) {
        return KNOWN.computeIfAbsent(state, Whole::of);
    }

    // A test that compares is worth as much as what it sees.
    private static void theQuestionsSee() {
        Run busy = Run.of("BUSY is full", BUSY).go("switching(0, NONE, 0) 6; look(15) 16; load(NONE, 0) 64; look(11) 7",
            "bills(5, 0) 191; look(8) 9; look(14) 3; look(57) 37; fault(0) 1; fault(1) 0; look(3) 1; look(4) 0");
        Check.due("more than 64 LINES", busy.ask("look(10)") > 64, true);
        Check.due("more than 40 lines of THE LOGBOOK", busy.ask("look(9)") > 40, true);
        String[] changes = {"phases(2, 4)", "sample(1, 1)", "again(1)", "set(0, 11)", "set(1, 100)", "set(2, 99)", "set(3, 2)",
            "set(4, 60)", "set(5, 3)", "set(10, 2)", "set(20, 1)", "set(21, 41)", "set(22, 5)", "table(0, 100, 2)",
            "wipe(7)", "feed(0, 0, 0, 0, 0)", "end(36)", "calendar()", "seal(77)", "season(1, 31)", "week(2, 0, 4)",
            "special(10, NONE)", "move(0)", "off(1)", "mark(0, false)", "prepaid(false)", "pay(1)", "bill()",
            "image(true)", "image(false)"};
        for (String change : changes) {
            // UNIT can't be told any more: the one call here that changes nothing.
            if (change.equals("set(1, 100)")) {
                Whole.of(with(BUSY, change)).isAs(known(BUSY), change);
            } else {
                Whole.of(with(BUSY, change)).isOtherThan(known(BUSY), change);
            }
        }
    }

    private static void refused(String[] state, String... scripts) {
        for (String script : scripts) {
            for (String call : script.split(";")) {
                Run.of("refused", state).go(call);
                String told = call.substring(0, call.indexOf(')') + 1);
                Whole.of(with(state, told)).isAs(known(state), told);
            }
        }
    }

    private static final String[] CANT_BE = {
        "phases(0, 4) 0; phases(4, 4) 0; phases(-1, 4) 0; phases(1, 0) 0; phases(1, 3) 0; phases(1, 5) 0; phases(1, 6) 0",
        "phases(2, 7) 0; phases(2, 9) 0; phases(2, 11) 0; phases(2, 13) 0; phases(3, 15) 0; phases(3, 17) 0",
        "phases(3, 20) 0; phases(1, -4) 0; phases(MAX, 4) 0; phases(MIN, 4) 0; phases(1, MAX) 0; phases(1, MIN) 0",
        "sample(501, 0) NONE; sample(-501, 0) NONE; sample(0, 501) NONE; sample(0, -501) NONE; sample(501, 501) NONE",
        "sample(MAX, 0) NONE; sample(MIN, 0) NONE; sample(0, MAX) NONE; sample(0, MIN) NONE",
        "again(0) NONE; again(901) NONE; again(-1) NONE; again(MAX) NONE; again(MIN) NONE",
        "set(0, -1) 0; set(0, 1000001) 0; set(1, 0) 0; set(1, 1000001) 0; set(1, -1) 0; set(2, -1) 0; set(2, 250001) 0",
        "set(3, -1) 0; set(3, 61) 0; set(4, 59) 0; set(4, 61) 0; set(4, 0) 0; set(4, -60) 0; set(4, 299) 0; set(4, 301) 0",
        "set(4, 120) 0; set(4, 600) 0; set(4, 899) 0; set(4, 901) 0; set(4, 1799) 0; set(4, 1801) 0; set(4, 3599) 0",
        "set(4, 3601) 0; set(4, 7200) 0; set(5, 0) 0; set(5, 7) 0; set(5, -1) 0",
        "set(10, -1) 0; set(10, 101) 0; set(11, -1) 0; set(11, 101) 0; set(12, -1) 0; set(12, 101) 0; set(13, -1) 0",
        "set(13, 101) 0; set(20, -1) 0; set(20, 101) 0; set(21, -1) 0; set(21, 201) 0; set(22, -1) 0; set(22, 101) 0",
        "set(-1, 1) 0; set(6, 1) 0; set(7, 1) 0; set(9, 1) 0; set(14, 1) 0; set(19, 1) 0; set(23, 1) 0; set(30, 1) 0",
        "set(MAX, 1) 0; set(MIN, 1) 0; set(0, MAX) 0; set(0, MIN) 0; set(1, MAX) 0; set(1, MIN) 0; set(10, MAX) 0",
        "table(-1, 5, 1) NONE; table(8, 5, 1) NONE; table(2, -1, 1) NONE; table(2, 86400, 1) NONE; table(2, 5, -1) NONE",
        "table(2, 5, 4) NONE; table(MAX, 5, 1) NONE; table(MIN, 5, 1) NONE; table(2, MAX, 1) NONE; table(2, MIN, 1) NONE",
        "table(2, 5, MAX) NONE; table(2, 5, MIN) NONE; wipe(-1) NONE; wipe(8) NONE; wipe(MAX) NONE; wipe(MIN) NONE",
        "end(-1) 0; end(301) 0; end(MAX) 0; end(MIN) 0; seal(-1) 0; seal(10000) 0; seal(MAX) 0; seal(MIN) 0",
        "open(0) 0; open(77) 0; open(-1) 0; open(10000) 0",
        "season(-1, 5) 0; season(4, 5) 0; season(0, NONE) 0; season(0, -2) 0; season(0, 365) 0; season(1, -2) 0",
        "season(1, 365) 0; season(3, 365) 0; season(MAX, 5) 0; season(MIN, 5) 0; season(2, MAX) 0; season(2, MIN) 0",
        "week(-1, 0, 1) 0; week(4, 0, 1) 0; week(0, -1, 1) 0; week(0, 7, 1) 0; week(0, 0, -1) 0; week(0, 0, 8) 0",
        "week(MAX, 0, 1) 0; week(MIN, 0, 1) 0; week(0, MAX, 1) 0; week(0, MIN, 1) 0; week(0, 0, MAX) 0; week(0, 0, MIN) 0",
        "special(-1, 1) 0; special(365, 1) 0; special(10, 8) 0; special(10, -2) 0; special(-1, NONE) 0; special(365, NONE) 0",
        "special(MAX, 1) 0; special(MIN, 1) 0; special(10, MAX) 0; special(10, MIN) 0; special(9, NONE) 0; special(9, 8) 0",
        "move(-1) NONE; move(LAST+1) NONE; move(MAX) NONE; move(MIN) NONE",
        "off(0) NONE; off(-1) NONE; off(100001) NONE; off(MAX) NONE; off(MIN) NONE",
        "mark(-1, true) 0; mark(-1, false) 0; mark(2, true) 0; mark(2, false) 0; mark(3, false) 0; mark(4, true) 0",
        "mark(5, true) 0; mark(5, false) 0; mark(MAX, true) 0; mark(MIN, false) 0; mark(1, false) 0",
        "pay(-1) NO; pay(1000000001) NO; pay(MAX) NO; pay(MIN) NO"};

    private static final String[] NONE_THERE = {
        "image(false) 0; prepaid(false) 0; mark(0, false) 0; special(0, NONE) 0; end(1) 0; wipe(0) 0; season(1, NONE) 1"};

    private static final String[] FULL = {
        "table(0, 0, 1) NONE; table(0, 86398, 1) NONE; table(0, 101, 0) NONE; special(9, 1) 0; special(25, 0) 0",
        "prepaid(true) 0; mark(0, true) 0; end(38) 0; end(37) 1; set(1, 100) 0; set(1, 1) 0; season(2, NONE) 1"};

    private static final String[] LATE_CALLS = {
        "off(1) NONE; off(100000) NONE; move(LAST+1) NONE; cost(2) NONE; cheapest(1, 0) NONE; next(0) NONE"};

    private static void sealedCalls(String[] state) {
        long before = Run.of("REFUSED", state).ask("look(56)");
        String calls = "phases(2, 4) 0; phases(1, 8) 0; phases(9, 9) 0; set(0, 10) 0; set(0, 9) 0; set(99, 9) 0; set(1, 1) 0;"
            + "set(4, 900) 0; table(0, 100, 2) NONE; table(2, 5, 1) NONE; table(8, 5, 1) NONE; wipe(0) NONE; wipe(3) NONE;"
            + "wipe(8) NONE; season(1, 31) 0; season(1, NONE) 0; season(4, 0) 0; week(0, 0, 3) 0; week(4, 0, 3) 0;"
            + "special(10, 2) 0; special(10, NONE) 0; special(9, NONE) 0; special(365, 0) 0; move(0) NONE; move(-1) NONE;"
            + "move(LAST) NONE";
        for (String call : calls.split(";")) {
            String told = call.substring(0, call.indexOf(')') + 1);
            Run.of("SEALED", state).go(call).go("look(56) " + (before + 1));
            Whole.of(with(state, told)).isAs(known(state), told, "look(56)");
            // An IMAGE taken then has it too; twice the call counts twice.
            Run.of("each such call counts as REFUSED", state).go(told, told, "look(56) " + (before + 2));
        }
    }

    private static void sealedCalendar() {
        Run.of("THE TAPE is empty all the same, there is no FAULT", SEALED)
            .go("fault(0) 1; look(57) 37; calendar() NONE; look(57) 0; fault(0) 0; fault(1) NONE; look(56) 1; end(1) 0");
        List<String> others = new ArrayList<>(List.of("look(56)", "look(57)", "fault(0)", "fault(1)",
            "calendar() fault(0)", "calendar() fault(0) fault(1)"));
        others.add("image(false) look(0) look(2) look(5) look(9) look(10) look(11) look(14) look(20) look(53) look(56)"
            + " log(0, 0) load(0, 0) raw(0, NONE) period(0, 0) look(57)");
        Whole.of(with(SEALED, "calendar()")).isAs(known(SEALED), "calendar()", others.toArray(new String[0]));
    }

    private static void faultChangesNothing() {
        String[] bad = with(BUSY, "tape(table 0 0:0 1;season 0 9 1 1 1 1 1 1 1;special 3 3;price 9 9 9 9;?)");
        Run.of("NONE, and all stays, if there is a FAULT", bad).go("calendar() NONE; look(57) 0; fault(0) 3");
        Whole.of(with(bad, "calendar()")).isAs(known(bad), "calendar() with a FAULT", "look(57)", "fault(0)", "fault(1)",
            "calendar()", "calendar() fault(0)", "calendar() fault(0) fault(1)",
            "calendar() fault(0) fault(1) switching(3, NONE, 0)",
            "calendar() fault(0) fault(1) switching(3, NONE, 0) switching(0, NONE, 0)",
            "calendar() fault(0) fault(1) switching(3, NONE, 0) switching(0, NONE, 0) look(30)",
            "calendar() fault(0) fault(1) switching(3, NONE, 0) switching(0, NONE, 0) look(30) look(15)",
            "image(false) look(0) look(2) look(5) look(9) look(10) look(11) look(14) look(20) look(53) look(56)"
            + " log(0, 0) load(0, 0) raw(0, NONE) period(0, 0) look(57)");
    }

    // IN THOUGHT nothing stays; and what asks for what there is not changes nothing either.
    private static void asking(String[] state) {
        String calls = "period(0, 0);period(NONE, 8);period(9, 9);raw(0, 0);raw(7, 4);reading(6, NONE);reading(-1, 0);"
            + "tariffAt(0);tariffAt(LAST);tariffAt(-1);tableOf(0);tableOf(23148);tableOf(-1);switching(0, 0, 0);"
            + "switching(0, NONE, 7);switching(8, 0, 0);next(0);next(1);next(2);marked(2, 1);marked(5, 0);load(0, 0);"
            + "load(NONE, 0);load(64, 0);block(0);block(5);block(6);demand(0);demand(2);greatest(0, 0);greatest(4, 0);"
            + "billed(0, 0, 0);billed(6, 0, 0);bills(0, 1);bills(6, 0);money(0, 0);money(0, 1);money(6, 0);would(1, 0);"
            + "would(900, 0);would(900, 3);would(900, 6);would(0, 0);would(901, 0);would(1, 7);cost(1);cost(100000);"
            + "cost(0);cheapest(1, 0);cheapest(100000, 1);cheapest(1, 2);lasts();lost(0);lost(4);best(1, 0);best(64, 1);"
            + "best(65, 0);between(0, 1000);between(MAX, MIN);log(0, 0);log(40, 0);holds(0, 0);holds(23149, 0);look(0);"
            + "look(16);fault(0);fault(2)";
        for (String call : calls.split(";")) {
            Whole.of(with(state, call)).isAs(known(state), call);
        }
    }
}
