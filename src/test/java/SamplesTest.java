/** Promises 2, 3, 4, 23: PHASES, SAMPLES, THE PERIOD, METERED again. */
public final class SamplesTest {
    private static final long NO = -10000000000L;

    private SamplesTest() {
    }

    public static void main(String[] args) {
        phasesThatCanBe();
        samplesThatCanBe();
        threePhasesComeInTurn();
        quadrants();
        rootsGoDownwards();
        toldAnewSamplesAreGone();
        again();
        Check.finish();
    }

    // A PERIOD of 4 SAMPLES of one PHASE, the current the same u shifted by quarters.
    static void period4(WorkMeter x, int u, int i0, int i1) {
        x.sample(u, i0);
        x.sample(0, i1);
        x.sample(-u, -i0);
        x.sample(0, -i1);
    }

    private static void phasesThatCanBe() {
        WorkMeter x = new WorkMeter();
        for (int p = -1; p < 6; p++) {
            for (int n = -4; n < 25; n++) {
                boolean can = p >= 1 && p <= 3 && (n == 4 || n == 8 || n == 12 || n == 16);
                Check.due("phases(" + p + ", " + n + ")", x.phases(p, n), can);
            }
        }
        Check.due("look(12)", x.look(12), 3);
        Check.due("look(13)", x.look(13), 16);
        Check.due("phases", x.phases(Integer.MAX_VALUE, Integer.MIN_VALUE), false);
    }

    private static void samplesThatCanBe() {
        WorkMeter x = new WorkMeter();
        Check.due("sample(500, -500)", x.sample(500, -500), 1);
        Check.due("sample(-500, 500)", x.sample(-500, 500), 2);
        Check.due("sample(501, 0)", x.sample(501, 0), -1);
        Check.due("sample(-501, 0)", x.sample(-501, 0), -1);
        Check.due("sample(0, 501)", x.sample(0, 501), -1);
        Check.due("sample(0, -501)", x.sample(0, -501), -1);
        Check.due("look(14)", x.look(14), 2);
        for (int k = 3; k < 8; k++) {
            Check.due("sample", x.sample(0, 0), k);
        }
        Check.due("look(5)", x.look(5), 0);
        Check.due("the eighth", x.sample(0, 0), 0);
        Check.due("look(5)", x.look(5), 1);
        Check.due("ACTIVE", x.period(0, 0), -500000);
        // n by 4 is 2: what stands two later is 0, but for the last two, whose later ones are the first.
        Check.due("REACTIVE", x.period(0, 1), 0);
        Check.due("UU", x.period(0, 2), 500000);
        Check.due("EXPORT", x.raw(1, 0), 500000);
    }

    private static void threePhasesComeInTurn() {
        WorkMeter x = new WorkMeter();
        x.phases(3, 4);
        int[][] u = {{1, 2, 3, 4}, {10, 20, 30, 40}, {-1, -1, -1, -1}};
        int[][] i = {{1, 1, 1, 1}, {1, 0, 0, 2}, {5, 5, 5, 5}};
        for (int k = 0; k < 4; k++) {
            for (int f = 0; f < 3; f++) {
                int due = (k * 3 + f + 1) % 12;
                Check.due("sample", x.sample(u[f][k], i[f][k]), due);
            }
        }
        Check.due("ACTIVE 0", x.period(0, 0), 10);
        Check.due("ACTIVE 1", x.period(1, 0), 90);
        Check.due("ACTIVE 2", x.period(2, 0), -20);
        Check.due("REACTIVE 1", x.period(1, 1), 10 * 0 + 20 * 0 + 30 * 2 + 40 * 1);
        Check.due("P", x.period(-1, 0), 80);
        Check.due("Q", x.period(-1, 1), 10 + 100 - 20);
        Check.due("UU", x.period(-1, 2), 30 + 3000 + 4);
        Check.due("II", x.period(-1, 3), 4 + 5 + 100);
        Check.due("S", x.period(-1, 4), 120);
        Check.due("S 2", x.period(2, 4), 28);
        Check.due("QUADRANT", x.period(-1, 5), 1);
        Check.due("QUADRANT 2", x.period(2, 5), 3);
        Check.due("root of UU by n, the greatest", x.period(-1, 6), 27);
        Check.due("root of UU by n 0", x.period(0, 6), 2);
        Check.due("root of II by n, the greatest", x.period(-1, 7), 5);
        Check.due("factor", x.period(-1, 8), 666);
        Check.due("factor 2, towards 0", x.period(2, 8), -20000 / 28);
        Check.due("period(3, 0)", x.period(3, 0), NO);
        Check.due("period(-2, 0)", x.period(-2, 0), NO);
        Check.due("period(0, 9)", x.period(0, 9), NO);
        Check.due("period(0, -1)", x.period(0, -1), NO);
        Check.due("P to IMPORT", x.raw(0, -1), 80);
        Check.due("Q of QUADRANT 1", x.raw(2, -1), 90);
        Check.due("S to APPARENT", x.raw(6, -1), 120);
    }

    private static void quadrants() {
        int[][] signs = {{1, 1, 1}, {-1, 1, 2}, {-1, -1, 3}, {1, -1, 4}, {0, 0, 1}, {0, -1, 4}, {-1, 0, 2}, {0, 1, 1}};
        for (int[] s : signs) {
            WorkMeter x = new WorkMeter();
            x.phases(1, 4);
            period4(x, 100, 10 * s[0], 10 * s[1]);
            Check.due("QUADRANT", x.period(-1, 5), s[2]);
            for (int q = 1; q <= 4; q++) {
                Check.due("REACTIVE", x.raw(1 + q, 0), q == s[2] ? 2000L * Math.abs(s[1]) : 0);
            }
            Check.due("IMPORT", x.raw(0, 0), s[0] > 0 ? 2000 : 0);
            Check.due("EXPORT", x.raw(1, 0), s[0] < 0 ? 2000 : 0);
        }
    }

    private static void rootsGoDownwards() {
        WorkMeter x = new WorkMeter();
        x.phases(1, 4);
        period4(x, 1, 1, 1);
        Check.due("S", x.period(0, 4), 2);
        Check.due("APPARENT", x.raw(6, 0), 2);
        Check.due("factor", x.period(0, 8), 1000);
        x.phases(3, 16);
        for (int k = 0; k < 48; k++) {
            x.sample(500, -500);
        }
        Check.due("the most S", x.period(-1, 4), 16970562);
        Check.due("EXPORT", x.raw(1, 0), 12000000);
        Check.due("QUADRANT 3", x.raw(4, 0), 12000000);
    }

    private static void toldAnewSamplesAreGone() {
        WorkMeter x = new WorkMeter();
        x.phases(1, 4);
        period4(x, 100, 10, 0);
        x.sample(1, 1);
        Check.due("phases(1, 6)", x.phases(1, 6), false);
        Check.due("look(14)", x.look(14), 1);
        Check.due("ACTIVE", x.period(0, 0), 2000);
        Check.due("phases(1, 4)", x.phases(1, 4), true);
        Check.due("look(14)", x.look(14), 0);
        Check.due("ACTIVE", x.period(0, 0), 0);
        Check.due("S", x.period(-1, 4), 0);
        x.again(5);
        Check.due("RAW", x.raw(0, -1), 2000);
        Check.due("APPARENT", x.raw(6, -1), 2000);
    }

    private static void again() {
        WorkMeter x = new WorkMeter();
        x.phases(1, 4);
        Check.due("again(1)", x.again(1), 0);
        period4(x, 100, 10, 0);
        x.sample(7, 7);
        Check.due("again(900)", x.again(900), 1802);
        Check.due("look(0)", x.look(0), 902);
        Check.due("look(5)", x.look(5), 902);
        Check.due("look(14)", x.look(14), 1);
        Check.due("again(0)", x.again(0), -1);
        Check.due("again(901)", x.again(901), -1);
        Check.due("again(-1)", x.again(-1), -1);
        Check.due("again(least)", x.again(Integer.MIN_VALUE), -1);
        Check.due("look(5)", x.look(5), 902);
    }
}
