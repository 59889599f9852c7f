/** The edges of part 1: PHASES, SAMPLES, THE PERIOD, TIME (promises 1, 2, 3, 4, 23, 48). */
public final class PeriodEdgesTest {
    private static final int[] SAMPLES = {4, 8, 12, 16};

    private PeriodEdgesTest() {
    }

    public static void main(String[] args) {
        atFirst();
        shapes();
        samples();
        toldAnew();
        reactiveWrapsAround();
        wholeRoots();
        quadrants();
        meansAndFactors();
        again();
        phasesThatThereAre();
        look();
        Check.finish();
    }

    private static void atFirst() {
        Run.of("One PHASE, nothing METERED", "look(12) 1; look(13) 8; look(5) 0; look(0) 0; look(14) 0",
            "raw(0, NONE) 0");
        Run.of("At first THE PERIOD has all u, i 0", "period(0, 0) 0; period(0, 1) 0; period(0, 2) 0; period(0, 3) 0",
            "period(0, 4) 0; period(0, 5) 1; period(0, 6) 0; period(0, 7) 0; period(0, 8) 0; period(NONE, 5) 1",
            "again(1) 0; look(5) 1; raw(6, NONE) 0; look(8) 0; marked(2, 3) 0; marked(4, 3) 0");
        Run.of("n 8 at first", "samples(1, 1, 1, 1, 1, 1, 1, 1, 1, 1, 1, 1, 1, 1) 7; look(5) 0; sample(1, 1) 0",
            "look(5) 1",
            "period(0, 0) 8");
    }

    private static void shapes() {
        for (int p = 1; p <= 3; p++) {
            for (int n : SAMPLES) {
                Run run = Run.of("As all of a PERIOD have come: it is THE PERIOD", "phases(" + p + ", " + n + ") 1");
                run.go("look(12) " + p + "; look(13) " + n);
                for (int k = 1; k < p * n; k++) {
                    run.go("sample(1, 2) " + k);
                }
                run.go("look(14) " + (p * n - 1) + "; look(5) 0; look(0) 0; period(0, 0) 0");
                run.go("sample(1, 2) 0; look(14) 0; look(5) 1; look(0) 1; sample(1, 2) 1; look(5) 1");
                run.go("period(0, 0) " + 2 * n + "; period(NONE, 0) " + 2 * n * p + "; period(NONE, 2) " + n * p);
            }
        }
    }

    private static void samples() {
        Run.of("-500 .. 500 both", "phases(1, 4); sample(500, 500) 1; sample(-500, -500) 2; sample(500, -500) 3",
            "sample(501, 0) NONE; sample(0, 501) NONE; sample(-501, 0) NONE; sample(0, -501) NONE; look(14) 3",
            "look(5) 0",
            "sample(-500, 500) 0; look(5) 1; period(0, 0) 0; period(0, 2) 1000000; period(0, 3) 1000000");
        Run.of("SAMPLES come in turn of PHASE 0, 1 .., then of PHASE 0 again",
            "phases(3, 4); samples(1, 1, 2, 2, 3, 3, 0, 0, 0, 0, 0, 0, 0, 0, 0, 0, 0, 0, 10, 1, 20, 1, 30, 1)",
            "period(0, 0) 11; period(1, 0) 24; period(2, 0) 39; period(0, 2) 101; period(1, 2) 404; period(2, 2) 909");
        Run.of("one that can't be does not take the turn of a PHASE",
            "phases(2, 4); sample(1, 1) 1; sample(501, 1) NONE; sample(2, 1) 2",
            "samples(0, 0, 0, 0, 0, 0, 0, 0, 0, 0, 0, 0)",
            "period(0, 2) 1; period(1, 2) 4");
    }

    private static void toldAnew() {
        Run.of("SAMPLES that have come of one that is not whole are gone",
            "samples(9, 9, 9, 9, 9, 9, 9, 9, 9, 9, 9, 9, 9, 9) 7; phases(1, 8) 1; look(14) 0; sample(1, 1) 1",
            "look(5) 0",
            "samples(1, 1, 1, 1, 1, 1, 1, 1, 1, 1, 1, 1) 7; sample(1, 1) 0; period(0, 0) 8; raw(0, 0) 8");
        Run.of("THE PERIOD has all u, i 0 then", "phases(1, 4); power(10, 3, 2); period(0, 0) 30; phases(1, 4) 1",
            "period(0, 0) 0; period(0, 1) 0; period(0, 2) 0; period(0, 3) 0; period(0, 4) 0; period(0, 5) 1",
            "period(0, 8) 0",
            "again(2); raw(0, 0) 30; raw(2, 0) 20; raw(6, 0) 36; look(5) 3");
        Run.of("false if they can't be: SAMPLES stay", "phases(2, 4); samples(1, 1, 2, 2, 3, 3) 3; phases(4, 4) 0",
            "phases(2, 5) 0; look(14) 3; look(12) 2; look(13) 4; sample(4, 4) 4");
        Run.of("fewer PHASES: the third is none any more", "phases(3, 4); period(2, 0) 0; phases(2, 4)",
            "period(2, 0) NO",
            "period(1, 0) 0; phases(1, 4); period(1, 0) NO; period(0, 0) 0");
    }

    // u in one SAMPLE alone, i in one alone: REACTIVE is there just where i is n by 4 later.
    private static void reactiveWrapsAround() {
        for (int n : SAMPLES) {
            for (int k = 0; k < n; k++) {
                for (int j = 0; j < n; j++) {
                    Run run = Run.of("i of that n by 4 later (behind the last the first again)",
            "phases(2, " + n + ")");
                    for (int s = 0; s < n; s++) {
                        int u = s == k ? 7 : 0;
                        int i = s == j ? 11 : 0;
                        run.go("samples(" + u + ", 0, " + u + ", " + i + ")");
                    }
                    run.go("period(1, 0) " + (j == k ? 77 : 0) + "; period(1, 1) " + (j == (k + n / 4) % n ? 77 : 0));
                    run.go("period(0, 0) 0; period(0, 1) 0; look(5) 1");
                }
            }
        }
    }

    private static void wholeRoots() {
        int[][] due = {{0, 0, 0}, {1, 0, 1}, {0, 1, 1}, {1, 1, 1}, {2, 2, 2}, {3, 4, 5}, {4, 7, 8}, {8, 4, 8}, {-3, -4, 5},
            {20, 21, 29}, {20, 20, 28}, {119, 120, 169}, {119, 119, 168}, {500, 500, 707}, {-500, 500, 707}, {499, 500, 706}};
        for (int[] d : due) {
            Run.of("the whole root (downwards) of P squared and Q squared", "phases(1, 4)",
            "power(1, " + d[0] + ", " + d[1] + ")",
                "period(NONE, 4) " + d[2] + "; period(0, 4) " + d[2] + "; raw(6, 0) " + d[2] + "; block(2) " + d[2]);
        }
        // 500 times these: the squares have no fractions to hide behind.
        Run.of("the whole root of great numbers", "phases(1, 4); power(500, 3, 4); raw(6, 0) 2500",
            "power(500, 500, 500)",
            "period(0, 4) 353553; power(500, 300, 400); period(0, 4) 250000");
        Run.of("S of all: by P and Q of all together", "phases(2, 4)",
            "samples(1, 3, 1, -3, 0, 4, 0, -4, 0, 0, 0, 0, 0, 0, 0, 0)",
            "period(0, 4) 5; period(1, 4) 5; period(NONE, 4) 0; period(NONE, 8) 0; period(1, 8) -600; raw(6, 0) 0");
    }

    private static void quadrants() {
        int[][] due = {{0, 0, 1}, {0, 1, 1}, {1, 0, 1}, {1, 1, 1}, {-1, 0, 2}, {-1, 1, 2}, {-1, -1, 3}, {0, -1, 4}, {1, -1, 4}};
        for (int[] d : due) {
            Run run = Run.of("1 P, Q not below 0; 2 P below, Q not; 3 both below; 4 Q alone below",
                "phases(1, 4); power(5, " + d[0] + ", " + d[1] + ")", "period(0, 5) " + d[2] + "",
            "period(NONE, 5) " + d[2]);
            for (int quadrant = 1; quadrant <= 4; quadrant++) {
                run.go("raw(" + (1 + quadrant) + ", 0) " + (quadrant == d[2] ? Math.abs(5 * d[1]) : 0));
            }
        }
        Run.of("of a PHASE by its own, of all by all", "phases(2, 4)",
            "samples(1, -3, 1, 5, 0, -1, 0, 1, 0, 0, 0, 0, 0, 0, 0, 0)",
            "period(0, 5) 3; period(1, 5) 1; period(NONE, 5) 1");
    }

    private static void meansAndFactors() {
        Run.of("the whole root of UU by n", "phases(1, 4); samples(3, 5, 3, 3, 3, 1, 3, 0); period(0, 6) 3",
            "period(0, 2) 36",
            "period(0, 7) 2; period(0, 3) 35; samples(500, -500, 500, -500, -500, 500, 500, 500); period(0, 6) 500",
            "period(0, 7) 500; samples(1, 0, 1, 1, 1, 0, 0, 0); period(0, 6) 0; period(0, 7) 0");
        Run.of("of all: the greatest of the PHASES",
            "phases(3, 4); samples(1, 9, 7, 2, 2, 3, 1, 9, 7, 2, 2, 3, 1, 9, 7, 2, 2, 3, 1, 9, 7, 2, 2, 3)",
            "period(NONE, 6) 7; period(NONE, 7) 9; period(0, 6) 1; period(1, 6) 7; period(2, 7) 3");
        Run.of("not all of them together",
            "phases(3, 4); samples(9, 5, 9, 5, 9, 5, 9, 5, 9, 5, 9, 5, 9, 5, 9, 5, 9, 5, 9, 5, 9, 5, 9, 5)",
            "period(NONE, 6) 9; period(NONE, 7) 5",
            "period(NONE, 2) 972; period(2, 6) 9");
        Run.of("1000 times ACTIVE by S (towards 0; S 0: 0)", "phases(1, 4); power(1, 2, 3); period(0, 8) 666",
            "power(1, -2, 3)",
            "period(0, 8) -666; period(NONE, 8) -666; power(1, 0, 5); period(0, 8) 0; power(1, 0, 0); period(0, 8) 0",
            "power(1, -500, 0); period(0, 8) -1000; power(1, 2, 1); period(0, 8) 1000; power(1, -1, 500)",
            "period(0, 8) -2");
    }

    private static void again() {
        Run.of("1 .. 900", "again(0) NONE; look(5) 0; again(1) 0; look(5) 1; again(900) 0; look(5) 901",
            "again(901) NONE",
            "look(5) 901; look(0) 901");
        Run.of("IMPORT TOTAL, READING", "phases(1, 4); table(0, 2, 1); power(1, 333, 0); again(1) 0; again(1) 0",
            "again(1) 1",
            "raw(0, 0) 666; raw(0, 1) 666; reading(0, 0) 0; reading(0, NONE) 1");
        Run.of("SAMPLES of a PERIOD that is not whole stay", "phases(1, 4); samples(1, 5, 0, 0, 0, 0) 3; again(900) 0",
            "look(14) 3",
            "sample(0, 0) 0; period(0, 0) 5; look(5) 901");
    }

    private static void phasesThatThereAre() {
        for (int p = 1; p <= 3; p++) {
            Run run = Run.of("NONE - 9999999999 if there is none such, or another what", "phases(" + p + ", 4)");
            for (int what = 0; what <= 8; what++) {
                long due = what == 5 ? 1 : 0;
                run.go("period(" + (p - 1) + ", " + what + ") " + due + "; period(NONE, " + what + ") " + due);
                run.go("period(" + p + ", " + what + ") NO; period(-2, " + what + ") NO; period(MAX, " + what + ") NO");
            }
            run.go("period(0, 9) NO; period(0, -1) NO; period(NONE, 9) NO; period(NONE, -1) NO; period(MIN, MIN) NO");
        }
    }

    private static void look() {
        Run run = Run.of("NONE - 9999999999 for another what");
        for (int what = -5; what < 100; what++) {
            boolean known = what >= 0 && what <= 15 || what >= 20 && what <= 25 || what >= 30 && what <= 33
                || what >= 40 && what <= 43 || what >= 50 && what <= 57;
            Check.due("look(" + what + ") is told", run.ask("look(" + what + ")") != -10000000000L, known);
        }
        run.go("look(MAX) NO; look(MIN) NO");
    }
}
