import java.util.ArrayList;
import java.util.Arrays;
import java.util.List;
import java.util.Set;

/**
 * All that can be asked of a meter behind a run of calls, and what a few calls more would do to it:
 * so a test can hold that a call has changed nothing, or nothing but what it tells. As an object answers
 * 512 calls alone, the run is made again for each part of the questions.
 */
final class Whole {
    private static final int PART = 350;
    private static final List<String> QUESTIONS = questions();
    // What can't be asked right away: SAMPLES that have come, THE TAPE, THE IMAGE, the code, the last BILL's RAW.
    private static final String[][] PROBES = {
        {"samples(7, 5, 11, 3, 13, 2, 17, 1, 19, 9)", "period(0, 0)", "period(0, 1)", "period(NONE, 2)", "look(14)"},
        {"calendar()", "fault(0)", "fault(1)", "switching(3, NONE, 0)", "switching(0, NONE, 0)", "look(30)", "look(15)"},
        {"image(false)", "look(0)", "look(2)", "look(5)", "look(9)", "look(10)", "look(11)", "look(14)", "look(20)",
            "look(53)", "look(56)", "log(0, 0)", "load(0, 0)", "raw(0, NONE)", "period(0, 0)", "look(57)"},
        {"open(77)", "look(53)", "look(54)", "look(55)", "log(0, 1)", "season(2, 0)", "tableOf(0)", "season(0, 364)",
            "tableOf(0)", "tableOf(1)"},
        {"bill()", "billed(0, 0, NONE)", "billed(0, 1, NONE)", "billed(0, 6, NONE)", "bills(0, 1)", "money(0, 0)"},
        {"again(61)", "load(0, 0)", "load(0, 1)", "load(0, 5)", "demand(0)", "demand(1)", "marked(2, 0)",
            "marked(3, 0)", "marked(4, 0)", "look(2)", "look(4)", "look(8)"},
        {"off(61)", "load(0, 0)", "load(0, 4)", "load(0, 5)", "look(7)", "look(9)"}};

    private final List<String> asked = new ArrayList<>();
    private final List<Long> answers = new ArrayList<>();

    private Whole() {
    }

    static Whole of(String... scripts) {
        Whole all = new Whole();
        for (int from = 0; from < QUESTIONS.size(); from += PART) {
            Run run = Run.of("", scripts);
            for (String question : QUESTIONS.subList(from, Math.min(from + PART, QUESTIONS.size()))) {
                all.add(question, question, run);
            }
        }
        for (String[] probe : PROBES) {
            Run run = Run.of("", scripts);
            StringBuilder told = new StringBuilder();
            for (String call : probe) {
                told.append(call);
                all.add(told.toString(), call, run);
                told.append(" ");
            }
        }
        return all;
    }

    private void add(String told, String call, Run run) {
        asked.add(told);
        answers.add(run.ask(call));
    }

    /** Holds that all is as it was, but for the answers to some questions, of which any will do. */
    void isAs(Whole before, String behind, String... others) {
        Set<String> free = Set.copyOf(Arrays.asList(others));
        for (int k = 0; k < asked.size(); k++) {
            if (!free.contains(asked.get(k))) {
                Check.due("behind " + behind + " " + asked.get(k), answers.get(k), before.answers.get(k));
            }
        }
    }

    /** Holds that some answer is another one: that the questions see what they should see. */
    void isOtherThan(Whole before, String behind) {
        Check.due(behind + " changes something", answers.equals(before.answers), false);
    }

    private static void ask(List<String> all, String name, int[]... ranges) {
        int[] at = new int[ranges.length];
        for (int k = 0; k < at.length; k++) {
            at[k] = ranges[k][0];
        }
        for (boolean more = true; more;) {
            String args = Arrays.toString(at);
            all.add(name + "(" + args.substring(1, args.length() - 1) + ")");
            int k = at.length - 1;
            while (k >= 0 && at[k] == ranges[k][1]) {
                at[k] = ranges[k][0];
                k--;
            }
            more = k >= 0;
            if (more) {
                at[k]++;
            }
        }
    }

    private static int[] to(int first, int last) {
        return new int[] {first, last};
    }

    private static List<String> questions() {
        List<String> all = new ArrayList<>();
        ask(all, "look", to(0, 57));
        ask(all, "fault", to(0, 1));
        ask(all, "period", to(-1, 2), to(0, 8));
        ask(all, "raw", to(0, 6), to(-1, 3));
        ask(all, "reading", to(0, 6), to(-1, 3));
        ask(all, "tableOf", to(0, 371));
        ask(all, "switching", to(0, 7), to(-1, 5), to(0, 1));
        ask(all, "next", to(0, 1));
        ask(all, "marked", to(0, 4), to(0, 3));
        ask(all, "load", to(-1, 63), to(0, 5));
        ask(all, "block", to(0, 5));
        ask(all, "demand", to(0, 1));
        ask(all, "greatest", to(0, 3), to(0, 1));
        ask(all, "billed", to(0, 5), to(0, 6), to(-1, 3));
        ask(all, "bills", to(0, 5), to(0, 4));
        ask(all, "money", to(0, 5), to(0, 1));
        ask(all, "would", to(61, 61), to(0, 6));
        ask(all, "cost", to(1000, 1000));
        ask(all, "cheapest", to(1000, 1000), to(0, 1));
        all.add("lasts()");
        ask(all, "lost", to(0, 3));
        ask(all, "best", to(2, 2), to(0, 1));
        ask(all, "between", to(100, 100), to(1000, 1000));
        ask(all, "log", to(0, 39), to(0, 2));
        return all;
    }
}
