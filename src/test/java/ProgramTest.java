import java.util.Arrays;

/** Promises 4 (line), 5 (drop), 6 (turns), 7 (set), 8 (run), 9 (lose), 10 (at), 11 (about). */
public final class ProgramTest {
    private static final int NO = SoftBench.NO;
    private static final int MIN = Integer.MIN_VALUE;
    private static final int MAX = Integer.MAX_VALUE;
    private static final Due due = new Due();

    public static void main(String[] args) {
        lineEdges();
        lineAgain();
        lineFull();
        drop();
        turns();
        set();
        rates();
        warmths();
        runRefused();
        lag();
        bound();
        lose();
        atRefused();
        about();
        due.end();
    }

    private static SoftBench withThin(int slope) {
        SoftBench x = new SoftBench();
        x.stuff(0, slope, 0, 1, 0);
        return x;
    }

    private static int line(SoftBench x, int[] l) {
        return x.line(l[0], l[1], l[2], l[3], l[4]);
    }

    private static void lineEdges() {
        int[][] bad = {
            {-1, 1, 1, 1, 1}, {6, 0, 0, 1, 1}, {MIN, 1, 1, 1, 1},
            {0, 201, 0, 1, 1}, {0, -201, 0, 1, 1}, {0, 0, 0, 0, 1}, {0, 0, 0, 61, 1},
            {1, 201, 0, 1, 1}, {1, -201, 0, 1, 1}, {1, 0, 201, 1, 1}, {1, 0, -201, 1, 1}, {1, 0, 0, 0, 1}, {1, 0, 0, 61, 1},
            {2, 201, 0, 1, 1}, {2, -201, 0, 1, 1}, {2, 0, 0, 0, 1}, {2, 0, 0, 61, 1}, {2, 0, 0, 1, 0}, {2, 0, 0, 1, 10},
            {3, 0, 0, 0, 1}, {3, 0, 0, 61, 1}, {3, 0, 0, MAX, 1},
            {4, -1, 0, 1, 1}, {4, 41, 0, 1, 1},
        };
        int[][] good = {
            {0, 200, MAX, 60, MIN}, {0, -200, MIN, 1, MAX},
            {1, 200, -200, 60, MIN}, {1, -200, 200, 1, MAX},
            {2, 200, MIN, 60, 9}, {2, -200, MAX, 1, 1},
            {3, MAX, MAX, 60, MAX}, {3, MIN, MIN, 1, MIN},
            {4, 0, MAX, MAX, MAX}, {4, 40, MIN, MIN, MIN},
        };
        SoftBench x = new SoftBench();
        for (int[] l : bad) {
            due.is("line" + Arrays.toString(l), line(x, l), SoftBench.BAD);
        }
        due.is("no LINE after BAD ones", x.count(1), 0);
        for (int k = 0; k < good.length; k++) {
            due.is("line" + Arrays.toString(good[k]), line(x, good[k]), k);
        }
        due.is("ten LINES", x.count(1), 10);
    }

    private static void lineAgain() {
        SoftBench x = new SoftBench();
        due.is("AGAIN of nothing", x.line(5, 0, 0, 1, 0), SoftBench.BAD);
        x.line(4, 10, 0, 0, 0);
        due.is("AGAIN n 0", x.line(5, 0, 0, 0, 0), SoftBench.BAD);
        due.is("AGAIN n 6", x.line(5, 0, 0, 6, 0), SoftBench.BAD);
        due.is("AGAIN of itself", x.line(5, 1, 0, 1, 0), SoftBench.BAD);
        due.is("AGAIN below 0", x.line(5, -1, 0, 1, 0), SoftBench.BAD);
        due.is("AGAIN", x.line(5, 0, MAX, 5, MIN), 1);
        due.is("AGAIN of an AGAIN", x.line(5, 1, 0, 1, 0), SoftBench.BAD);
        due.is("AGAIN over an AGAIN", x.line(5, 0, 0, 1, 0), SoftBench.BAD);
        x.line(3, 0, 0, 1, 0);
        due.is("AGAIN over an AGAIN further up", x.line(5, 0, 0, 1, 0), SoftBench.BAD);
        due.is("AGAIN from an AGAIN on", x.line(5, 1, 0, 1, 0), SoftBench.BAD);
        due.is("AGAIN behind an AGAIN", x.line(5, 2, 0, 1, 0), 3);
    }

    private static void lineFull() {
        SoftBench x = new SoftBench();
        for (int k = 0; k < 10; k++) {
            due.is("line " + k, x.line(3, 0, 0, 1, 0), k);
        }
        due.is("an 11th", x.line(3, 0, 0, 1, 0), SoftBench.FULL);
        due.is("an 11th that is AGAIN", x.line(5, 9, 0, 1, 0), SoftBench.FULL);
        due.is("BAD comes ahead of FULL", x.line(5, 10, 0, 1, 0), SoftBench.BAD);
        due.is("BAD comes ahead of FULL", x.line(3, 0, 0, 0, 0), SoftBench.BAD);
        due.is("TURNS are as they were", x.turns(), 10);
    }

    private static void drop() {
        SoftBench x = new SoftBench();
        due.is("drop of none", x.drop(), SoftBench.STATE);
        x.line(0, 1, 0, 5, 0);
        x.line(3, 0, 0, 7, 0);
        x.line(5, 0, 0, 1, 0);
        due.is("with AGAIN", x.turns(), 24);
        due.is("AGAIN is gone", x.drop(), 2);
        due.is("without AGAIN", x.turns(), 12);
        due.is("the numbers go on there", x.line(5, 1, 0, 2, 0), 2);
        due.is("with another AGAIN", x.turns(), 26);
        due.is("gone", x.drop(), 2);
        due.is("gone", x.drop(), 1);
        due.is("gone", x.drop(), 0);
        due.is("none is left", x.drop(), SoftBench.STATE);
        due.is("no TURNS are left", x.turns(), 0);
    }

    private static void turns() {
        SoftBench x = new SoftBench();
        x.line(4, 5, 0, 0, 0);
        due.is("WARM has no TURN", x.turns(), 0);
        x.line(0, 5, 0, 3, 0);
        due.is("STEP", x.turns(), 3);
        x.line(1, 5, 6, 4, 0);
        due.is("RAMP", x.turns(), 7);
        x.line(3, 0, 0, 2, 0);
        due.is("REST", x.turns(), 9);
        x.line(5, 1, 0, 2, 0);
        due.is("AGAIN", x.turns(), 27);
        x.line(2, 9, 0, 60, 9);
        due.is("SWING, beyond 400", x.turns(), 2187);
        x.line(5, 5, 0, 5, 0);
        due.is("AGAIN, far beyond 400", x.turns(), 12987);
    }

    private static void set() {
        SoftBench x = new SoftBench();
        int[][] bad = {{-1, 1}, {2, 1}, {0, -1}, {0, 10}, {1, 0}, {1, 100001}, {1, -1}, {MAX, 5}, {0, MIN}};
        for (int[] s : bad) {
            due.is("set" + Arrays.toString(s), x.set(s[0], s[1]), SoftBench.BAD);
        }
        due.is("LAG at first", x.set(0, 9), 0);
        due.is("LAG then", x.set(0, 0), 9);
        due.is("LAG is 0", x.set(0, 3), 0);
        due.is("BOUND at first", x.set(1, 1), 100000);
        due.is("BOUND then", x.set(1, 100000), 1);
        due.is("BOUND at most", x.set(1, 7), 100000);
        due.is("LAG is its own", x.set(0, 3), 3);
    }

    private static void expectRates(String name, SoftBench x, int... rates) {
        due.is(name + ": run", x.run(0), rates.length);
        for (int t = 0; t < rates.length; t++) {
            due.is(name + ": RATE at " + t, x.at(t, 1), rates[t]);
        }
    }

    private static SoftBench withLine(int kind, int a, int b, int n, int m) {
        SoftBench x = withThin(1);
        due.is("line", x.line(kind, a, b, n, m), 0);
        return x;
    }

    private static void rates() {
        expectRates("STEP", withLine(0, -7, 0, 3, 0), -7, -7, -7);
        expectRates("REST", withLine(3, 99, 99, 2, 0), 0, 0);
        expectRates("RAMP of 1", withLine(1, 5, 9, 1, 0), 5);
        expectRates("RAMP of 2", withLine(1, 5, 9, 2, 0), 5, 9);
        expectRates("RAMP up", withLine(1, 0, 10, 4, 0), 0, 3, 6, 10);
        expectRates("RAMP down", withLine(1, 0, -10, 4, 0), 0, -3, -6, -10);
        expectRates("RAMP up from below", withLine(1, -10, 10, 4, 0), -10, -4, 3, 10);
        expectRates("RAMP down from above", withLine(1, 10, -10, 4, 0), 10, 4, -3, -10);
        expectRates("SWING of 1", withLine(2, 200, 0, 1, 2), 0, 200, 0, -200, 0, 200, 0, -200);
        expectRates("SWING of 2", withLine(2, 5, 0, 2, 1), 0, 2, 5, 2, 0, -2, -5, -2);
        expectRates("SWING below 0", withLine(2, -5, 0, 2, 1), 0, -2, -5, -2, 0, 2, 5, 2);
        expectRates("SWING of 3", withLine(2, 10, 0, 3, 1), 0, 3, 6, 10, 6, 3, 0, -3, -6, -10, -6, -3);
    }

    private static void expectColumn(String name, SoftBench x, int what, int... column) {
        for (int t = 0; t < column.length; t++) {
            due.is(name + " at " + t, x.at(t, what), column[t]);
        }
    }

    private static void warmths() {
        SoftBench x = withThin(50);
        x.line(0, 1, 0, 1, 0);
        x.line(4, 40, 0, 0, 0);
        x.line(0, 2, 0, 1, 0);
        x.line(5, 0, 0, 1, 0);
        x.line(4, 0, 0, 0, 0);
        x.line(3, 0, 0, 1, 0);
        x.line(0, 3, 0, 1, 0);
        x.line(5, 5, 0, 2, 0);
        due.is("run", x.run(0), 10);
        expectColumn("WARMTH", x, 2, 20, 40, 40, 40, 0, 0, 0, 0, 0, 0);
        expectColumn("LINE", x, 3, 0, 2, 0, 2, 5, 6, 5, 6, 5, 6);
        expectColumn("RATE", x, 1, 1, 2, 1, 2, 0, 3, 0, 3, 0, 3);
        expectColumn("READING", x, 0, 30, 20, 10, 20, 0, 150, 0, 150, 0, 150);
        due.is("again", x.run(0), 10);
        due.is("a RUN begins at 20 again", x.at(0, 2), 20);
    }

    private static void runRefused() {
        SoftBench x = withThin(1);
        due.is("no LINE", x.run(0), SoftBench.STATE);
        due.is("no such STUFF comes first", x.run(1), SoftBench.BAD);
        due.is("no such STUFF", x.run(-1), SoftBench.BAD);
        x.line(4, 1, 0, 0, 0);
        x.line(5, 0, 0, 5, 0);
        due.is("no TURN", x.run(0), SoftBench.STATE);
        x.line(2, 8, 0, 50, 2);
        due.is("400 TURNS", x.run(0), 400);
        x.lose(7);
        x.line(3, 0, 0, 1, 0);
        due.is("401 TURNS", x.run(0), SoftBench.STATE);
        due.is("BAD ahead of STATE", x.run(9), SoftBench.BAD);
        due.is("refused RUNS are none", x.count(5), 1);
        due.is("READINGS are as they were", x.about(0), 400);
        due.is("LOST ones are as they were", x.about(1), 1);
    }

    private static void lag() {
        SoftBench x = withThin(50);
        x.line(4, 0, 0, 0, 0);
        x.line(0, 2, 0, 3, 0);
        x.line(0, -1, 0, 3, 0);
        x.set(0, 7);
        x.run(0);
        // (7 q + 3 P) by 10, P 100 thrice, then -50 thrice
        expectColumn("LAG 7", x, 0, 30, 51, 65, 30, 6, -10);
        x.set(0, 9);
        x.run(0);
        expectColumn("LAG 9, from 0 again", x, 0, 10, 19, 27, 19, 12, 5);
        x.set(0, 0);
        x.run(0);
        expectColumn("LAG 0", x, 0, 100, 100, 100, -50, -50, -50);
    }

    private static void bound() {
        SoftBench x = withThin(50);
        x.line(4, 0, 0, 0, 0);
        x.line(0, 2, 0, 2, 0);
        x.line(0, -4, 0, 3, 0);
        x.set(1, 100);
        x.run(0);
        expectColumn("BOUND 100", x, 0, 100, 100, -100, -100, -100);
        due.is("at the BOUND it is not CLIPPED", x.about(2), 3);
        x.lose(4);
        due.is("a LOST one was CLIPPED all the same", x.about(2), 3);
        x.set(0, 5);
        x.run(0);
        // the bounded READING is what lags: 50, 75, (75 - 200) / 2, (-62 - 200) / 2 clipped, (-100 - 200) / 2 clipped
        expectColumn("BOUND 100, LAG 5", x, 0, 50, 75, -62, -100, -100);
        due.is("CLIPPED anew", x.about(2), 2);
        x.set(1, 1);
        x.run(0);
        expectColumn("BOUND 1", x, 0, 1, 1, -1, -1, -1);
        due.is("all CLIPPED", x.about(2), 5);
    }

    private static void lose() {
        SoftBench x = withThin(50);
        x.line(1, 0, 3, 4, 0);
        due.is("ahead of a RUN", x.lose(0), NO);
        x.run(0);
        due.is("it was", x.lose(2), 60);
        due.is("it was LOST", x.lose(2), NO);
        due.is("no place", x.lose(4), NO);
        due.is("no place", x.lose(-1), NO);
        due.is("no place", x.lose(MAX), NO);
        due.is("LOST ones", x.about(1), 1);
        due.is("a READING of 0", x.lose(0), 0);
        due.is("LOST ones", x.about(1), 2);
        due.is("LOST", x.at(2, 0), NO);
        due.is("its RATE is there", x.at(2, 1), 2);
        due.is("its WARMTH is there", x.at(2, 2), 20);
        due.is("its LINE is there", x.at(2, 3), 0);
        x.run(0);
        due.is("there again by a new RUN", x.at(2, 0), 60);
        due.is("none LOST any more", x.about(1), 0);
    }

    private static void atRefused() {
        SoftBench x = withThin(50);
        x.line(0, 1, 0, 2, 0);
        x.line(0, 2, 0, 2, 0);
        x.run(0);
        int[][] bad = {{-1, 0}, {4, 0}, {4, 3}, {0, -1}, {0, 4}, {MAX, 0}, {MIN, 0}, {0, MAX}, {399, 0}, {400, 1}};
        for (int[] a : bad) {
            due.is("at" + Arrays.toString(a), x.at(a[0], a[1]), NO);
        }
        x.drop();
        due.is("READINGS stay when LINES go", x.at(3, 0), 60);
        due.is("and their LINE", x.at(3, 3), 1);
        x.run(0);
        due.is("a shorter RUN has no such place", x.at(2, 0), NO);
    }

    private static void about() {
        SoftBench x = withThin(50);
        x.stuff(1, 1, 1, 1, 0);
        x.line(0, 1, 0, 2, 0);
        x.run(1);
        due.is("READINGS", x.about(0), 2);
        due.is("the STUFF", x.about(3), 1);
        x.lose(0);
        due.is("READINGS, LOST ones, too", x.about(0), 2);
        x.run(0);
        due.is("the STUFF then", x.about(3), 0);
        due.is("RUNS", x.count(5), 2);
        due.is("about(-1)", x.about(-1), SoftBench.BAD);
        due.is("about(4)", x.about(4), SoftBench.BAD);
        due.is("about(MAX)", x.about(MAX), SoftBench.BAD);
    }
}
