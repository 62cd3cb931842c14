import java.util.Arrays;

/** Promises 17 (keep), 18 (curve), 19 (spread), 20 (shift), 21 (check), 22 (count). */
public final class CurveTest {
    private static final int NO = SoftBench.NO;
    private static final int MIN = Integer.MIN_VALUE;
    private static final int MAX = Integer.MAX_VALUE;
    private static final Due due = new Due();

    public static void main(String[] args) {
        keep();
        curve();
        spread();
        spreadLost();
        shift();
        shiftOfSeveral();
        shiftOverlap();
        checkEdges();
        checkOil();
        doubt();
        passedCurves();
        doubtStays();
        count();
        due.end();
    }

    /** READINGS are RATES here: slope 1 at warmth 0. */
    private static SoftBench plain() {
        SoftBench x = new SoftBench();
        x.stuff(0, 1, 0, 1, 0);
        return x;
    }

    /** Keeps READINGS that go as a RAMP goes from a to b. */
    private static void keepRamp(SoftBench x, int curve, int a, int b, int n) {
        while (x.drop() >= 0) { }
        x.line(4, 0, 0, 0, 0);
        x.line(1, a, b, n, 0);
        due.is("run", x.run(0), n);
        due.is("keep", x.keep(curve), n);
    }

    private static void keep() {
        SoftBench x = plain();
        due.is("no READINGS", x.keep(0), SoftBench.STATE);
        due.is("BAD comes first", x.keep(4), SoftBench.BAD);
        x.line(0, 5, 0, 3, 0);
        due.is("no RUN yet", x.keep(0), SoftBench.STATE);
        x.run(0);
        due.is("BAD", x.keep(-1), SoftBench.BAD);
        due.is("BAD", x.keep(4), SoftBench.BAD);
        due.is("BAD", x.keep(MAX), SoftBench.BAD);
        for (int c = 0; c < 4; c++) {
            due.is("keep(" + c + ")", x.keep(c), 3);
        }
        x.lose(0);
        x.lose(1);
        x.lose(2);
        due.is("LOST ones, too", x.keep(1), 3);
        due.is("they are LOST in it", x.spread(0, 1, 0, 1), 0);
        due.is("but not in one KEPT before", x.spread(0, 2, 0, 1), 3);
        x.line(0, 6, 0, 1, 0);
        x.run(0);
        due.is("a CURVE stays when a RUN comes", x.curve(0, 0), 3);
        due.is("until it is KEPT anew", x.keep(0), 4);
        due.is("then it has as many", x.curve(0, 0), 4);
        x.drop();
        x.run(0);
        due.is("and fewer", x.keep(0), 3);
        due.is("nothing of the longer one is left", x.spread(0, 0, 0, 1), 3);
    }

    private static void curve() {
        SoftBench x = plain();
        x.stuff(1, 1, 1, 1, 0);
        x.line(0, 5, 0, 3, 0);
        x.run(1);
        x.keep(2);
        due.is("how many", x.curve(2, 0), 3);
        due.is("no DOUBT", x.curve(2, 1), 0);
        due.is("the STUFF", x.curve(2, 2), 1);
        x.run(0);
        due.is("the STUFF stays", x.curve(2, 2), 1);
        x.keep(2);
        due.is("the STUFF of the new one", x.curve(2, 2), 0);
        due.is("never KEPT", x.curve(1, 0), SoftBench.NONE);
        int[][] bad = {{-1, 0}, {4, 0}, {0, -1}, {0, 3}, {2, 3}, {2, -1}, {MAX, 0}, {MIN, 0}};
        for (int[] c : bad) {
            due.is("curve" + Arrays.toString(c), x.curve(c[0], c[1]), SoftBench.BAD);
        }
    }

    private static void spread() {
        SoftBench x = plain();
        keepRamp(x, 0, 0, 4, 5);
        keepRamp(x, 1, 1, 3, 3);
        // 0 1 2 3 4 and 1 2 3
        int[][] expected = {
            // d, SPREAD, OVERLAP
            {0, 1, 3}, {1, 2, 2}, {2, 3, 1}, {3, SoftBench.NONE, 0}, {-1, 0, 3}, {-2, 1, 3}, {-3, 2, 2}, {-4, 3, 1},
            {-5, SoftBench.NONE, 0}, {MAX, SoftBench.NONE, 0}, {MIN, SoftBench.NONE, 0}, {400, SoftBench.NONE, 0},
        };
        for (int[] e : expected) {
            due.is("spread(0, 1, " + e[0] + ", 0)", x.spread(0, 1, e[0], 0), e[1]);
            due.is("spread(0, 1, " + e[0] + ", 1)", x.spread(0, 1, e[0], 1), e[2]);
        }
        due.is("the other way round", x.spread(1, 0, 1, 0), 0);
        due.is("the other way round", x.spread(1, 0, 1, 1), 3);
        int[][] bad = {{-1, 0, 0, 0}, {4, 0, 0, 0}, {0, -1, 0, 0}, {0, 4, 0, 0}, {0, 1, 0, 2}, {0, 1, 0, -1},
            {2, 0, 0, 0}, {0, 2, 0, 0}, {0, 3, 0, 1}};
        for (int[] s : bad) {
            due.is("spread" + Arrays.toString(s), x.spread(s[0], s[1], s[2], s[3]), SoftBench.BAD);
        }
    }

    private static void spreadLost() {
        SoftBench x = plain();
        keepRamp(x, 0, 0, 4, 5);
        x.lose(4);
        x.lose(0);
        x.keep(1);
        due.is("without LOST ones", x.spread(0, 1, 0, 1), 3);
        due.is("LOST ones do not spread", x.spread(0, 1, 0, 0), 0);
        due.is("laid by 1", x.spread(0, 1, 1, 1), 3);
        due.is("laid by 1", x.spread(0, 1, 1, 0), 1);
        due.is("laid by 4: the last is LOST", x.spread(0, 1, 4, 0), SoftBench.NONE);
        due.is("laid by -4: the first is LOST", x.spread(0, 1, -4, 1), 0);
        due.is("of the LOST ones", x.spread(1, 1, 2, 1), 1);
    }

    private static void shift() {
        SoftBench x = plain();
        keepRamp(x, 0, 0, 9, 10);
        keepRamp(x, 1, 3, 12, 10);
        due.is("laid back by 3", x.shift(0, 1, 5), -3);
        due.is("laid on by 3", x.shift(1, 0, 5), 3);
        due.is("as far as it may", x.shift(0, 1, 2), -2);
        due.is("as far on as it may", x.shift(1, 0, 2), 2);
        due.is("by one on", x.shift(1, 0, 1), 1);
        due.is("by one back", x.shift(0, 1, 1), -1);
        due.is("not at all", x.shift(0, 1, 0), 0);
        due.is("far", x.shift(0, 1, 400), -3);
        int[][] bad = {{-1, 0, 1}, {4, 0, 1}, {0, -1, 1}, {0, 4, 1}, {0, 1, -1}, {0, 1, 401}, {2, 0, 1}, {0, 2, 1},
            {0, 1, MAX}, {0, 1, MIN}};
        for (int[] s : bad) {
            due.is("shift" + Arrays.toString(s), x.shift(s[0], s[1], s[2]), NO);
        }
    }

    private static void shiftOfSeveral() {
        SoftBench x = plain();
        keepRamp(x, 0, 7, 7, 9);
        due.is("of all alike the one nearest to 0", x.shift(0, 0, 9), 0);
        while (x.drop() >= 0) { }
        x.line(4, 0, 0, 0, 0);
        x.line(0, 5, 0, 1, 0);
        x.line(0, 9, 0, 1, 0);
        x.line(5, 1, 0, 4, 0);
        x.run(0);
        x.keep(1);
        while (x.drop() >= 0) { }
        x.line(4, 0, 0, 0, 0);
        x.line(0, 9, 0, 1, 0);
        x.line(0, 5, 0, 1, 0);
        x.line(5, 1, 0, 4, 0);
        x.run(0);
        x.keep(2);
        // 5 9 5 9 .. over 9 5 9 5 ..: by -1 and by 1 alike
        due.is("of two the lesser one", x.shift(1, 2, 3), -1);
        due.is("of two the lesser one", x.shift(2, 1, 3), -1);
    }

    private static void shiftOverlap() {
        SoftBench x = plain();
        keepRamp(x, 0, 0, 5, 6);
        keepRamp(x, 1, 5, 10, 6);
        // the least SPREAD would be at 5 places, with an OVERLAP of 1; half of 6 is 3
        due.is("half of it at least", x.shift(0, 1, 6), -3);
        due.is("SPREAD there", x.spread(0, 1, -3, 0), 2);
        keepRamp(x, 2, 5, 9, 5);
        // half of 5 is 2 and a half: 3 of them
        due.is("half of the lesser one, rounded up", x.shift(0, 2, 6), -3);
        due.is("OVERLAP there", x.spread(0, 2, -3, 1), 3);
        x.lose(0);
        x.lose(1);
        x.lose(2);
        x.keep(2);
        due.is("LOST ones count for the half", x.shift(0, 2, 6), NO);
        keepRamp(x, 3, 0, 0, 1);
        due.is("one READING", x.shift(3, 3, 400), 0);
        due.is("one READING finds its like", x.shift(3, 0, 6), 0);
        due.is("one READING and the other way", x.shift(0, 3, 6), 0);
    }

    private static void checkEdges() {
        SoftBench x = new SoftBench();
        x.stuff(0, 50, 0, 1, 0);
        due.is("no RUN", x.check(0), SoftBench.STATE);
        due.is("BAD comes first", x.check(-1), SoftBench.BAD);
        x.line(4, 10, 0, 0, 0);
        x.line(0, 2, 0, 1, 0);
        x.line(0, 10, 0, 1, 0);
        x.set(0, 5);
        x.run(0);
        // READINGS 40, 220; THE PRESS at the end is 400
        due.is("just within", x.check(180), 1);
        due.is("just beyond", x.check(179), 0);
        due.is("by 0", x.check(0), 0);
        due.is("by all", x.check(MAX), 1);
        due.is("below 0", x.check(-1), SoftBench.BAD);
        due.is("below 0", x.check(MIN), SoftBench.BAD);
        x.lose(0);
        due.is("another is LOST", x.check(180), 1);
        x.lose(1);
        due.is("the last is LOST", x.check(180), SoftBench.STATE);
        due.is("passed", x.count(3), 3);
        due.is("failed", x.count(4), 2);
        x.drop();
        x.line(0, -10, 0, 1, 0);
        x.run(0);
        // 40, -180; THE PRESS is -400
        due.is("below 0, just within", x.check(220), 1);
        due.is("below 0, just beyond", x.check(219), 0);
    }

    private static void checkOil() {
        SoftBench x = new SoftBench();
        x.stuff(1, 5, 0, 1, 0);
        x.stuff(2, 5, 0, 1, 0);
        x.stuff(0, 5, 0, 1, 0);
        x.line(0, 2, 0, 1, 0);
        x.run(0);
        due.is("YIELD is no OIL", x.check(5), SoftBench.STATE);
        x.run(1);
        due.is("BENT is no OIL", x.check(5), SoftBench.STATE);
        x.run(2);
        due.is("THIN is", x.check(5), 1);
        x.run(0);
        due.is("the latest RUN counts", x.check(5), SoftBench.STATE);
        due.is("passed", x.count(3), 1);
        due.is("failed", x.count(4), 0);
    }

    /** An OIL whose last READING is 50 away from THE PRESS. */
    private static SoftBench oil() {
        SoftBench x = new SoftBench();
        x.stuff(0, 50, 0, 1, 0);
        x.line(4, 0, 0, 0, 0);
        x.line(0, 2, 0, 1, 0);
        x.set(0, 5);
        x.run(0);
        return x;
    }

    private static void expectDoubts(String name, SoftBench x, int... doubts) {
        int sum = 0;
        for (int c = 0; c < doubts.length; c++) {
            due.is(name + ": curve " + c, x.curve(c, 1), doubts[c]);
            sum += doubts[c];
        }
        due.is(name + ": count(2)", x.count(2), sum);
    }

    private static void doubt() {
        SoftBench x = oil();
        x.keep(0);
        expectDoubts("KEPT", x, 0, 0, 0, 0);
        due.is("fails", x.check(49), 0);
        expectDoubts("KEPT ever", x, 1, 0, 0, 0);
        x.keep(1);
        expectDoubts("KEPT since it failed", x, 1, 0, 0, 0);
        due.is("passes", x.check(50), 1);
        expectDoubts("a CHECK that passes lifts no DOUBT", x, 1, 0, 0, 0);
        x.keep(2);
        due.is("fails", x.check(49), 0);
        expectDoubts("KEPT since the latest that passed", x, 1, 0, 1, 0);
        x.keep(0);
        expectDoubts("KEPT anew", x, 0, 0, 1, 0);
        due.is("fails", x.check(49), 0);
        expectDoubts("fails again", x, 1, 0, 1, 0);
        x.keep(1);
        due.is("fails", x.check(0), 0);
        expectDoubts("KEPT anew since then", x, 1, 1, 1, 0);
    }

    private static void passedCurves() {
        SoftBench x = oil();
        for (int c = 0; c < 4; c++) {
            x.keep(c);
        }
        x.check(50);
        x.check(0);
        expectDoubts("a CHECK has passed for all of them", x, 0, 0, 0, 0);
        for (int c = 3; c >= 0; c--) {
            x.keep(c);
        }
        x.check(0);
        expectDoubts("none has since", x, 1, 1, 1, 1);
    }

    private static void doubtStays() {
        SoftBench x = oil();
        x.keep(3);
        x.check(-1);
        expectDoubts("a refused CHECK", x, 0, 0, 0, 0);
        x.check(0);
        x.run(0);
        x.check(50);
        x.check(50);
        expectDoubts("until it is KEPT anew", x, 0, 0, 0, 1);
        x.keep(4);
        x.keep(2);
        expectDoubts("another is KEPT", x, 0, 0, 0, 1);
        x.keep(3);
        expectDoubts("KEPT anew", x, 0, 0, 0, 0);
        x.lose(0);
        due.is("no CHECK", x.check(0), SoftBench.STATE);
        expectDoubts("STATE is no failing", x, 0, 0, 0, 0);
    }

    private static void count() {
        SoftBench x = oil();
        x.stuff(2, 1, 1, 1, 1);
        x.keep(0);
        x.keep(1);
        x.check(49);
        x.check(50);
        x.check(51);
        x.run(1);
        x.run(1);
        int[] counts = {2, 2, 2, 2, 1, 3};
        for (int what = 0; what < counts.length; what++) {
            due.is("count(" + what + ")", x.count(what), counts[what]);
        }
        due.is("count(-1)", x.count(-1), SoftBench.BAD);
        due.is("count(6)", x.count(6), SoftBench.BAD);
        due.is("count(MAX)", x.count(MAX), SoftBench.BAD);
        due.is("count(MIN)", x.count(MIN), SoftBench.BAD);
    }
}
