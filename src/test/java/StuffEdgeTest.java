/** Promises 1 (a new object), 2 (stuff), 3 (press), 23 (trace): a test for each sentence that names an edge. */
public final class StuffEdgeTest {
    private static final int BAD = SoftBench.BAD;
    private static final int FULL = SoftBench.FULL;
    private static final int NO = SoftBench.NO;
    private static final int MIN = Integer.MIN_VALUE;
    private static final int MAX = Integer.MAX_VALUE;
    private static final int THIN = 0;
    private static final int YIELD = 1;
    private static final int BENT = 2;
    private static final Due due = new Due();
    private static final Edges told = new Edges(due, "stuff", SoftBench::new, BAD);

    public static void main(String[] args) {
        newObject();
        objectsAreApart();
        sixAtMost();
        kinds();
        slopes();
        yields();
        knees();
        cuts();
        notLookedAt();
        numbers();
        rates();
        warmths();
        belowZero();
        thinIsRoundedDown();
        yieldAtRest();
        bentAboveItsKnee();
        bentIsZeroAtLeast();
        traceOfBodies();
        traceByPressAlone();
        due.end();
    }

    private static void newObject() {
        due.sentence("No STUFFS, no LINES, no READINGS, no CURVES.");
        SoftBench x = new SoftBench();
        due.is("STUFFS", x.count(0), 0);
        due.is("press of the first STUFF", x.press(0, 0, 0), NO);
        due.is("run of the first STUFF", x.run(0), BAD);
        due.is("LINES", x.count(1), 0);
        due.is("drop", x.drop(), SoftBench.STATE);
        due.is("turns", x.turns(), 0);
        due.is("READINGS", x.about(0), 0);
        due.is("the first READING", x.at(0, 0), NO);
        due.is("keep", x.keep(0), SoftBench.STATE);
        for (int c = 0; c < 4; c++) {
            due.is("CURVE " + c, x.curve(c, 0), SoftBench.NONE);
            due.is("CURVE " + c + " over itself", x.spread(c, c, 0, 1), BAD);
        }
        for (int what = 2; what <= 5; what++) {
            due.is("count(" + what + ")", x.count(what), 0);
        }
        due.is("trace", x.trace(), 0);
    }

    private static void objectsAreApart() {
        due.sentence("No STUFFS, no LINES, no READINGS, no CURVES.");
        SoftBench used = Benches.ofRates(1, 2, 3);
        used.press(0, 1, 0);
        used.set(0, 9);
        used.set(1, 1);
        used.keep(0);
        used.check(0);
        SoftBench x = new SoftBench();
        for (int what = 0; what <= 5; what++) {
            due.is("count(" + what + ") beside one that is in use", x.count(what), 0);
        }
        due.is("READINGS", x.about(0), 0);
        due.is("CURVE 0", x.curve(0, 0), SoftBench.NONE);
        due.is("trace", x.trace(), 0);
        due.is("LAG", x.set(0, 0), 0);
        due.is("BOUND", x.set(1, 1), 100000);
        due.is("the one in use has its STUFF", used.count(0), 1);
        due.is("the one in use has its READINGS", used.about(0), 3);
    }

    private static void sixAtMost() {
        due.sentence("STUFFS (6 at most)");
        SoftBench x = new SoftBench();
        for (int k = 0; k < 6; k++) {
            due.is("press ahead of STUFF " + k, x.press(k, 1, 0), NO);
            due.is("STUFF " + k, x.stuff(k % 3, 10 + k, 0, 1, 0), k);
            due.is("how many with STUFF " + k, x.count(0), k + 1);
        }
        for (int kind = THIN; kind <= BENT; kind++) {
            due.is("a 7th of KIND " + kind, x.stuff(kind, 1, 0, 1, 0), FULL);
        }
        due.is("how many", x.count(0), 6);
        for (int k = 0; k < 6; k++) {
            due.is("STUFF " + k + " is as it was", x.press(k, 1, 0), 10 + k);
        }
        due.is("press of a 7th", x.press(6, 1, 0), NO);
        Benches.rest(x, 1);
        due.is("run of the 6th", x.run(5), 1);
        due.is("run of a 7th", x.run(6), BAD);
    }

    private static void kinds() {
        due.sentence("0 THIN, 1 YIELD, 2 BENT; THIN stands over YIELD, YIELD over BENT.");
        told.of(0, THIN, BENT, 0, 5, 5, 5, 5);
        SoftBench x = new SoftBench();
        x.stuff(THIN, 10, 7, 1, 1);
        x.stuff(YIELD, 10, 7, 1, 1);
        x.stuff(BENT, 10, 7, 1, 1);
        due.is("THIN", x.press(0, 3, 0), 30);
        due.is("YIELD", x.press(1, 3, 0), 37);
        due.is("BENT", x.press(2, 3, 0), 35);
    }

    private static void slopes() {
        due.sentence("a SLOPE k (0 .. 50)");
        for (int kind = THIN; kind <= BENT; kind++) {
            told.of(1, 0, 50, kind, 5, 0, 1, 0);
            SoftBench x = new SoftBench();
            x.stuff(kind, 0, 0, 100, 0);
            x.stuff(kind, 50, 0, 100, 0);
            due.is("at slope 0", x.press(0, 200, 0), 0);
            due.is("at slope 50", x.press(1, 200, 0), 10000);
        }
    }

    private static void yields() {
        due.sentence("a YIELD y (0 .. 500)");
        for (int kind = YIELD; kind <= BENT; kind++) {
            told.of(2, 0, 500, kind, 5, 5, 1, 0);
            SoftBench x = new SoftBench();
            x.stuff(kind, 3, 0, 100, 0);
            x.stuff(kind, 3, 500, 100, 0);
            due.is("at yield 0", x.press(0, 1, 0), 3);
            due.is("at yield 500", x.press(1, 1, 0), 503);
        }
    }

    private static void knees() {
        due.sentence("a KNEE m (1 .. 100)");
        told.of(3, 1, 100, BENT, 5, 5, 5, 0);
        SoftBench x = new SoftBench();
        x.stuff(BENT, 10, 0, 1, 4);
        x.stuff(BENT, 10, 0, 100, 4);
        due.is("knee 1 at 1", x.press(0, 1, 0), 10);
        due.is("knee 1 at 2", x.press(0, 2, 0), 20 - 4);
        due.is("knee 100 at 100", x.press(1, 100, 0), 1000);
        due.is("knee 100 at 101", x.press(1, 101, 0), 1010 - 4);
    }

    private static void cuts() {
        due.sentence("a CUT c (0 .. k)");
        for (int k : new int[] {0, 1, 7, 49, 50}) {
            told.of(4, 0, k, BENT, k, 5, 5, 0);
        }
        SoftBench x = new SoftBench();
        x.stuff(BENT, 50, 0, 1, 0);
        x.stuff(BENT, 50, 0, 1, 50);
        due.is("cut 0", x.press(0, 200, 0), 10000);
        due.is("cut 50", x.press(1, 200, 0), 10000 - 199 * 50);
    }

    private static void notLookedAt() {
        due.sentence("(all told; those of other KINDS are not looked at)");
        for (int which = 2; which <= 4; which++) {
            told.notLookedAt(which, THIN, 5, 0, 1, 0);
        }
        for (int which = 3; which <= 4; which++) {
            told.notLookedAt(which, YIELD, 5, 0, 1, 0);
        }
        SoftBench x = new SoftBench();
        x.stuff(THIN, 5, MAX, MIN, MAX);
        x.stuff(YIELD, 5, 8, MIN, MAX);
        due.is("THIN goes by its slope alone", x.press(0, 200, 0), 1000);
        due.is("YIELD goes by slope and yield alone", x.press(1, 200, 0), 1008);
    }

    private static void numbers() {
        due.sentence("THE PRESS. NO: BAD.");
        due.is("there is no STUFF", new SoftBench().press(0, 0, 0), NO);
        new Edges(due, "press", () -> Benches.thin(5), NO).of(0, 0, 0, 0, 5, 5);
        new Edges(due, "press", StuffEdgeTest::twoStuffs, NO).of(0, 0, 1, 0, 5, 5);
        due.is("every number is BAD", twoStuffs().press(2, 201, 41), NO);
    }

    private static SoftBench twoStuffs() {
        SoftBench x = Benches.thin(5);
        x.stuff(YIELD, 5, 5, 1, 0);
        return x;
    }

    private static void rates() {
        due.sentence("at a RATE r (-200 .. 200)");
        new Edges(due, "press", StuffEdgeTest::twoStuffs, NO).of(1, -200, 200, 1, 0, 20);
        SoftBench x = twoStuffs();
        due.is("THIN at 200", x.press(0, 200, 0), 1000);
        due.is("THIN at -200", x.press(0, -200, 0), -1000);
        due.is("YIELD at 200", x.press(1, 200, 0), 1005);
        due.is("YIELD at -200", x.press(1, -200, 0), -1005);
    }

    private static void warmths() {
        due.sentence("a WARMTH h (0 .. 40)");
        new Edges(due, "press", StuffEdgeTest::twoStuffs, NO).of(2, 0, 40, 1, 5, 0);
        SoftBench x = twoStuffs();
        due.is("THIN at warmth 0", x.press(0, 100, 0), 500);
        due.is("THIN at warmth 40", x.press(0, 100, 40), 100);
        due.is("YIELD at warmth 40", x.press(1, 100, 40), 105);
    }

    private static void belowZero() {
        due.sentence("for r below 0 it is that at - r, below 0");
        SoftBench x = new SoftBench();
        x.stuff(THIN, 7, 0, 1, 0);
        x.stuff(YIELD, 7, 30, 1, 0);
        x.stuff(BENT, 7, 30, 2, 3);
        int[] above = {7, 37, 37};
        int[] farAbove = {1400, 1430, 1430 - 198 * 3};
        for (int s = 0; s < 3; s++) {
            due.is("STUFF " + s + " at 1", x.press(s, 1, 0), above[s]);
            due.is("STUFF " + s + " at 0", x.press(s, 0, 0), 0);
            due.is("STUFF " + s + " at -1", x.press(s, -1, 0), -above[s]);
            due.is("STUFF " + s + " at 200", x.press(s, 200, 0), farAbove[s]);
            due.is("STUFF " + s + " at -200", x.press(s, -200, 0), -farAbove[s]);
        }
    }

    private static void thinIsRoundedDown() {
        due.sentence("THIN k r (50 - h) by 50, rounded down (1).");
        SoftBench x = Benches.thin(1);
        due.is("50 by 50", x.press(0, 1, 0), 1);
        due.is("49 by 50", x.press(0, 1, 1), 0);
        due.is("49 by 50 below 0", x.press(0, -1, 1), 0);
        due.is("98 by 50", x.press(0, 2, 1), 1);
        due.is("98 by 50 below 0", x.press(0, -2, 1), -1);
        due.is("2450 by 50", x.press(0, 50, 1), 49);
        due.is("2450 by 50 below 0", x.press(0, -50, 1), -49);
        due.is("2499 by 50", x.press(0, 51, 1), 49);
        due.is("2499 by 50 below 0", x.press(0, -51, 1), -49);
        due.is("10 by 50", x.press(0, 1, 40), 0);
        due.is("50 by 50, warm", x.press(0, 5, 40), 1);
    }

    private static void yieldAtRest() {
        due.sentence("YIELD 0 for r = 0, else up, and y (10).");
        SoftBench x = new SoftBench();
        x.stuff(YIELD, 0, 500, 1, 0);
        x.stuff(YIELD, 1, 500, 1, 0);
        for (int h : new int[] {0, 20, 40}) {
            due.is("at 0, warmth " + h, x.press(0, 0, h), 0);
            due.is("at 1, up is 0, warmth " + h, x.press(0, 1, h), 500);
            due.is("at -1, up is 0, warmth " + h, x.press(0, -1, h), -500);
        }
        due.is("at 1", x.press(1, 1, 0), 501);
        due.is("at 1, rounded down to y", x.press(1, 1, 1), 500);
        due.is("at -1, rounded to y", x.press(1, -1, 1), -500);
    }

    private static void bentAboveItsKnee() {
        due.sentence("less c for each by which r is above m");
        SoftBench x = new SoftBench();
        x.stuff(BENT, 10, 20, 30, 7);
        due.is("one below its knee", x.press(0, 29, 0), 310);
        due.is("at its knee", x.press(0, 30, 0), 320);
        due.is("one above", x.press(0, 31, 0), 330 - 7);
        due.is("two above", x.press(0, 32, 0), 340 - 14);
        due.is("at its knee below 0", x.press(0, -30, 0), -320);
        due.is("one beyond below 0", x.press(0, -31, 0), -(330 - 7));
        due.is("at 0", x.press(0, 0, 0), 0);
    }

    private static void bentIsZeroAtLeast() {
        due.sentence("0 at least (100).");
        SoftBench x = new SoftBench();
        x.stuff(BENT, 1, 0, 10, 1);
        // at warmth 25 it is r by 2, rounded down, less r - 10
        int[][] rows = {{16, 2}, {17, 1}, {18, 1}, {19, 0}, {20, 0}, {21, 0}, {22, 0}, {200, 0}};
        for (int[] row : rows) {
            due.is("at " + row[0], x.press(0, row[0], 25), row[1]);
            due.is("at -" + row[0], x.press(0, -row[0], 25), -row[1]);
        }
        x.stuff(BENT, 50, 500, 1, 50);
        // at warmth 40 it is 10 r + 500 - 50 (r - 1): 0 between 13 and 14
        due.is("550 - 40 * 13", x.press(1, 13, 40), 30);
        due.is("550 - 40 * 14 is below 0", x.press(1, 14, 40), 0);
    }

    private static void traceOfBodies() {
        due.sentence("numbers in brackets come to THE TRACE as often as press() asks that body");
        for (int r : new int[] {-200, -1, 0, 1, 200}) {
            int[] brings = {1, r == 0 ? 10 : 11, r == 0 ? 110 : 111};
            for (int kind = THIN; kind <= BENT; kind++) {
                SoftBench x = new SoftBench();
                x.stuff(kind, 5, 5, 5, 5);
                x.press(0, r, 0);
                due.is("KIND " + kind + " at " + r, x.trace(), brings[kind]);
                x.press(0, r, 40);
                due.is("KIND " + kind + " at " + r + " once more", x.trace(), 2 * brings[kind]);
            }
        }
    }

    private static void traceByPressAlone() {
        due.sentence("THE TRACE.");
        SoftBench x = twoStuffs();
        due.is("at first", x.trace(), 0);
        int[][] refused = {{2, 0, 0}, {-1, 0, 0}, {0, 201, 0}, {0, -201, 0}, {0, 0, 41}, {0, 0, -1}};
        for (int[] p : refused) {
            x.press(p[0], p[1], p[2]);
            due.is("after " + Calls.told("press", p), x.trace(), 0);
        }
        Benches.step(x, 5, 2);
        x.run(1);
        x.run(0);
        x.check(0);
        due.is("RUNS and CHECKS bring nothing", x.trace(), 0);
        x.press(0, 0, 0);
        due.is("a press does", x.trace(), 1);
        due.is("asking for it does not", x.trace(), 1);
    }
}
