/** Promises 17 (keep) to 22 (count): a test for each sentence that names an edge. */
public final class CurveEdgeTest {
    private static final int BAD = SoftBench.BAD;
    private static final int STATE = SoftBench.STATE;
    private static final int NONE = SoftBench.NONE;
    private static final int NO = SoftBench.NO;
    private static final int MIN = Integer.MIN_VALUE;
    private static final int MAX = Integer.MAX_VALUE;
    private static final Due due = new Due();

    public static void main(String[] args) {
        fourCurves();
        keepHowMany();
        keepNone();
        keptStays();
        curveNumbers();
        curveNeverKept();
        spreadRefused();
        spreadOverlap();
        spreadOfLongest();
        spreadBothThere();
        spreadSize();
        shiftRefused();
        shiftFromTo();
        shiftHalf();
        shiftHalfOfLesser();
        shiftHalfWithLost();
        shiftNearest();
        shiftLesser();
        checkAway();
        checkThere();
        checkRefused();
        checkOil();
        doubtSince();
        doubtUntilKeptAnew();
        doubtOfNone();
        counts();
        countRefused();
        due.end();
    }

    /** All four CURVES are KEPT: 0 1 2, 1 2, 5, and 5 4 3 2 1 0. */
    private static SoftBench kept() {
        SoftBench x = Benches.plain();
        Benches.keepReadings(x, 0, 0, 1, 2);
        Benches.keepReadings(x, 1, 1, 2);
        Benches.keepReadings(x, 2, 5);
        Benches.keepReadings(x, 3, 5, 4, 3, 2, 1, 0);
        return x;
    }

    private static void fourCurves() {
        due.sentence("CURVES 0 .. 3 are READINGS of a RUN that were KEPT.");
        new Edges(due, "keep", () -> Benches.ofRates(1), BAD).of(0, 0, 3, 0);
        new Edges(due, "curve", SoftBench::new, BAD).of(0, 0, 3, 0, 0);
        new Edges(due, "spread", CurveEdgeTest::kept, BAD).of(0, 0, 3, 0, 0, 0, 1);
        new Edges(due, "spread", CurveEdgeTest::kept, BAD).of(1, 0, 3, 0, 0, 0, 1);
        new Edges(due, "shift", CurveEdgeTest::kept, NO).of(0, 0, 3, 0, 0, 5);
        new Edges(due, "shift", CurveEdgeTest::kept, NO).of(1, 0, 3, 0, 0, 5);
        SoftBench x = kept();
        int[] sizes = {3, 2, 1, 6};
        for (int c = 0; c < 4; c++) {
            due.is("CURVE " + c + " has its own", x.curve(c, 0), sizes[c]);
        }
    }

    private static void keepHowMany() {
        due.sentence("READINGS become a CURVE: how many.");
        SoftBench x = Benches.thin(1);
        Benches.rest(x, 1);
        x.run(0);
        due.is("1", x.keep(0), 1);
        Benches.clear(x);
        Benches.restTurns(x, 400);
        x.run(0);
        due.is("400", x.keep(0), 400);
        due.is("400 are there", x.curve(0, 0), 400);
        due.is("all of them", x.spread(0, 0, 0, 1), 400);
        Benches.clear(x);
        Benches.rest(x, 1);
        x.run(0);
        due.is("1 again", x.keep(0), 1);
        due.is("1 is there", x.spread(0, 0, 0, 1), 1);
        x.lose(0);
        due.is("a LOST one, too", x.keep(0), 1);
        due.is("it is LOST there", x.spread(0, 0, 0, 1), 0);
    }

    private static void keepNone() {
        due.sentence("STATE: there are none.");
        SoftBench x = Benches.thin(1);
        due.is("no RUN", x.keep(0), STATE);
        Benches.rest(x, 1);
        due.is("no RUN yet", x.keep(0), STATE);
        due.is("BAD is ahead of STATE", x.keep(4), BAD);
        due.is("it was never KEPT", x.curve(0, 0), NONE);
        x.run(0);
        due.is("a RUN", x.keep(0), 1);
        Benches.clear(x);
        due.is("a refused RUN", x.run(0), STATE);
        due.is("takes no READINGS away", x.keep(0), 1);
    }

    private static void keptStays() {
        due.sentence("READINGS of a RUN that were KEPT");
        SoftBench x = Benches.ofRates(5, 6, 7);
        x.keep(0);
        x.keep(1);
        x.lose(1);
        due.is("not LOST by a later lose()", x.spread(0, 1, 0, 1), 3);
        x.keep(1);
        due.is("LOST by an earlier one", x.spread(0, 1, 0, 1), 2);
        x.run(0);
        due.is("a RUN brings none back", x.spread(0, 1, 0, 1), 2);
        x.set(1, 1);
        x.run(0);
        x.keep(2);
        due.is("a RUN changes none", x.spread(0, 2, 0, 0), 6);
    }

    private static void curveNumbers() {
        due.sentence("Of a CURVE: 0 how many READINGS (NONE: it was never KEPT), 1 whether it is in DOUBT, 2 the STUFF. BAD.");
        for (int c = 0; c < 4; c++) {
            new Edges(due, "curve", CurveEdgeTest::kept, BAD).of(1, 0, 2, c, 0);
            new Edges(due, "curve", SoftBench::new, BAD).of(1, 0, 2, c, 0);
        }
        SoftBench x = new SoftBench();
        for (int s = 0; s < 6; s++) {
            x.stuff(0, 1, 0, 1, 0);
        }
        Benches.rest(x, 2);
        x.run(5);
        x.keep(3);
        x.run(0);
        due.is("how many", x.curve(3, 0), 2);
        due.is("DOUBT", x.curve(3, 1), 0);
        due.is("the last STUFF", x.curve(3, 2), 5);
        x.keep(3);
        due.is("the first STUFF", x.curve(3, 2), 0);
    }

    private static void curveNeverKept() {
        due.sentence("(NONE: it was never KEPT)");
        SoftBench x = Benches.ofRates(1);
        x.keep(1);
        int[] sizes = {NONE, 1, NONE, NONE};
        for (int c = 0; c < 4; c++) {
            due.is("CURVE " + c, x.curve(c, 0), sizes[c]);
        }
        x.keep(4);
        x.keep(-1);
        due.is("keep() that was refused", x.curve(0, 0), NONE);
        due.is("keep() that was refused", x.curve(3, 0), NONE);
    }

    private static void spreadRefused() {
        due.sentence("BAD: also one that was never KEPT.");
        SoftBench x = Benches.ofRates(1);
        x.keep(1);
        for (int c = 0; c < 4; c++) {
            due.is("CURVE " + c + " over 1", x.spread(c, 1, 0, 1), c == 1 ? 1 : BAD);
            due.is("1 over CURVE " + c, x.spread(1, c, 0, 1), c == 1 ? 1 : BAD);
            due.is("far off, CURVE " + c + " over 1", x.spread(c, 1, MAX, 0), c == 1 ? NONE : BAD);
        }
        Edges spread = new Edges(due, "spread", CurveEdgeTest::kept, BAD);
        spread.of(3, 0, 1, 0, 1, 0, 0);
        spread.notLookedAt(2, 0, 1, 0, 1);
    }

    private static void expectSpread(SoftBench x, int curve, int other, int[]... rows) {
        for (int[] row : rows) {
            due.is(Calls.told("SPREAD", curve, other, row[0]), x.spread(curve, other, row[0], 0), row[1]);
            due.is(Calls.told("OVERLAP", curve, other, row[0]), x.spread(curve, other, row[0], 1), row[2]);
        }
    }

    private static void spreadOverlap() {
        due.sentence("(what = 0; NONE: no OVERLAP), OVERLAP (1)");
        SoftBench x = kept();
        // 0 1 2 over 5 4 3 2 1 0: t + d from 0 to 5
        expectSpread(x, 0, 3, new int[][] {{-3, NONE, 0}, {-2, 3, 1}, {-1, 4, 2}, {0, 5, 3}, {3, 2, 3}, {4, 1, 2},
            {5, 0, 1}, {6, NONE, 0}, {MIN, NONE, 0}, {MIN + 1, NONE, 0}, {MAX, NONE, 0}, {MAX - 1, NONE, 0}});
        expectSpread(x, 3, 0, new int[][] {{-6, NONE, 0}, {-5, 0, 1}, {-4, 1, 2}, {2, 3, 1}, {3, NONE, 0}});
        expectSpread(x, 2, 2, new int[][] {{-1, NONE, 0}, {0, 0, 1}, {1, NONE, 0}});
    }

    private static void spreadOfLongest() {
        due.sentence("LAID one over another by d places");
        SoftBench x = Benches.plain();
        Benches.restTurns(x, 399);
        Benches.step(x, 8, 1);
        due.is("run", x.run(0), 400);
        x.keep(0);
        expectSpread(x, 0, 0, new int[][] {{-401, NONE, 0}, {-400, NONE, 0}, {-399, 8, 1}, {-1, 8, 399}, {0, 0, 400},
            {1, 8, 399}, {399, 8, 1}, {400, NONE, 0}, {401, NONE, 0}});
    }

    private static void spreadBothThere() {
        due.sentence("where both are there");
        SoftBench x = Benches.plain();
        Benches.keepReadings(x, 0, 1, 9, 1, 9);
        Benches.keepReadings(x, 1, 1, 1, 1, 1);
        due.is("all are there", x.spread(0, 1, 0, 1), 4);
        due.is("and spread", x.spread(0, 1, 0, 0), 8);
        Benches.keepReadings(x, 0, 1, 9, 1, 9);
        x.lose(1);
        x.lose(3);
        x.keep(0);
        expectSpread(x, 0, 1, new int[][] {{0, 0, 2}, {1, 0, 2}, {3, 0, 1}, {-3, NONE, 0}});
        expectSpread(x, 1, 0, new int[][] {{0, 0, 2}, {-1, 0, 2}, {-3, 0, 1}, {3, NONE, 0}});
        expectSpread(x, 0, 0, new int[][] {{0, 0, 2}, {1, NONE, 0}, {2, 0, 1}});
        x.lose(0);
        x.lose(2);
        x.keep(0);
        expectSpread(x, 0, 1, new int[][] {{0, NONE, 0}});
        expectSpread(x, 1, 0, new int[][] {{0, NONE, 0}});
    }

    private static void spreadSize() {
        due.sentence("THE SPREAD is the greatest size of the difference");
        SoftBench x = new SoftBench();
        x.stuff(1, 50, 500, 1, 0);
        Benches.keepReadings(x, 0, 200, 0);
        Benches.keepReadings(x, 1, -200, 0);
        due.is("the greatest there is", x.spread(0, 1, 0, 0), 21000);
        due.is("the other way round", x.spread(1, 0, 0, 0), 21000);
        due.is("none", x.spread(0, 0, 0, 0), 0);
    }

    private static void shiftRefused() {
        due.sentence("THE SHIFT by n (0 .. 400); NO: none has such an OVERLAP, or BAD.");
        Edges shift = new Edges(due, "shift", CurveEdgeTest::kept, NO);
        shift.of(2, 0, 400, 0, 1, 0);
        shift.of(2, 0, 400, 3, 3, 0);
        SoftBench x = Benches.ofRates(1);
        x.keep(1);
        for (int c = 0; c < 4; c++) {
            due.is("CURVE " + c + " over 1", x.shift(c, 1, 0), c == 1 ? 0 : NO);
            due.is("1 over CURVE " + c, x.shift(1, c, 0), c == 1 ? 0 : NO);
        }
        x.lose(0);
        x.keep(2);
        due.is("no OVERLAP", x.shift(1, 2, 400), NO);
        due.is("no OVERLAP the other way round", x.shift(2, 1, 400), NO);
    }

    private static void shiftFromTo() {
        due.sentence("of d from - n to n");
        SoftBench x = Benches.plain();
        Benches.keepReadings(x, 0, 0, 1, 2, 3, 4, 5, 6, 7, 8);
        Benches.keepReadings(x, 1, 4, 5, 6, 7, 8, 9, 10, 11, 12);
        for (int n = 0; n <= 4; n++) {
            due.is("back by " + n, x.shift(0, 1, n), -n);
            due.is("on by " + n, x.shift(1, 0, n), n);
        }
        due.is("no farther back", x.shift(0, 1, 5), -4);
        due.is("no farther on", x.shift(1, 0, 400), 4);
        SoftBench far = Benches.plain();
        Benches.restTurns(far, 399);
        Benches.step(far, 5, 1);
        far.run(0);
        far.keep(0);
        Benches.keepReadings(far, 1, 5);
        due.is("to the last place", far.shift(1, 0, 399), 399);
        due.is("nearly there", far.shift(1, 0, 398), 0);
        due.is("back to the last place", far.shift(0, 1, 400), -399);
        due.is("nearly back", far.shift(0, 1, 398), 0);
    }

    private static void shiftHalf() {
        due.sentence("with an OVERLAP of half at least");
        SoftBench x = Benches.plain();
        Benches.keepReadings(x, 0, 0, 1, 2, 3, 4, 5);
        Benches.keepReadings(x, 1, 3, 4, 5, 6, 7, 8);
        Benches.keepReadings(x, 2, 4, 5, 6, 7, 8, 9);
        due.is("3 of 6", x.shift(0, 1, 6), -3);
        due.is("2 of 6 are too few", x.shift(0, 2, 6), -3);
        due.is("3 of 6 on", x.shift(1, 0, 6), 3);
        due.is("2 of 6 on are too few", x.shift(2, 0, 6), 3);
        Benches.keepReadings(x, 0, 0, 1, 2, 3, 4);
        Benches.keepReadings(x, 1, 2, 3, 4, 5, 6);
        Benches.keepReadings(x, 2, 3, 4, 5, 6, 7);
        due.is("3 of 5", x.shift(0, 1, 6), -2);
        due.is("2 of 5 are too few", x.shift(0, 2, 6), -2);
        due.is("3 of 5 on", x.shift(1, 0, 6), 2);
        due.is("2 of 5 on are too few", x.shift(2, 0, 6), 2);
    }

    private static void shiftHalfOfLesser() {
        due.sentence("of the lesser of both CURVES (by how many READINGS they have, LOST ones, too)");
        SoftBench x = Benches.plain();
        Benches.keepReadings(x, 0, 0, 1, 2, 3, 4, 5, 6, 7, 8);
        Benches.keepReadings(x, 1, 8, 9);
        due.is("1 of 2", x.shift(0, 1, 8), -8);
        due.is("1 of 2 the other way round", x.shift(1, 0, 8), 8);
        Benches.keepReadings(x, 1, 8, 9, 10);
        due.is("1 of 3 is too few", x.shift(0, 1, 8), -7);
        due.is("1 of 3 is too few the other way round", x.shift(1, 0, 8), 7);
        Benches.keepReadings(x, 1, 8);
        due.is("1 of 1", x.shift(0, 1, 8), -8);
        due.is("1 of 1 the other way round", x.shift(1, 0, 9), 8);
    }

    private static void shiftHalfWithLost() {
        due.sentence("LOST ones, too");
        SoftBench x = Benches.plain();
        Benches.keepReadings(x, 0, 0, 1, 2, 3, 4, 5);
        x.lose(0);
        x.lose(1);
        x.lose(2);
        x.keep(1);
        due.is("3 of 6 are there", x.shift(0, 1, 6), 0);
        due.is("3 of 6 are there in both", x.shift(1, 1, 6), 0);
        x.lose(3);
        x.keep(2);
        due.is("2 of 6 are there", x.shift(0, 2, 6), NO);
        due.is("2 of 6 are there, the other way round", x.shift(2, 0, 6), NO);
        Benches.keepReadings(x, 3, 4, 5);
        due.is("2 of 2 are there", x.shift(2, 3, 6), -4);
        Benches.keepReadings(x, 3, 0, 0, 0, 4, 5);
        x.lose(0);
        x.lose(1);
        x.lose(2);
        x.keep(3);
        due.is("2 of 5 are there", x.shift(0, 3, 6), NO);
    }

    /** Keeps 1 2 3 4 over and over, from the so-many-th of them on. */
    private static void keepRound(SoftBench x, int curve, int from) {
        Benches.clear(x);
        Benches.warm(x, 0);
        for (int t = 0; t < 4; t++) {
            Benches.step(x, 1 + (from + t) % 4, 1);
        }
        Benches.again(x, 1, 3);
        x.run(0);
        x.keep(curve);
    }

    private static void shiftNearest() {
        due.sentence("that with the least SPREAD, of several the one nearest to 0");
        SoftBench x = Benches.plain();
        keepRound(x, 0, 0);
        keepRound(x, 1, 1);
        keepRound(x, 3, 3);
        due.is("-4, 0, 4 are alike", x.shift(0, 0, 8), 0);
        due.is("-5, -1, 3, 7 are alike", x.shift(0, 1, 8), -1);
        due.is("-7, -3, 1, 5 are alike", x.shift(0, 3, 8), 1);
    }

    private static void shiftLesser() {
        due.sentence("of two the lesser one");
        SoftBench x = Benches.plain();
        keepRound(x, 0, 0);
        keepRound(x, 2, 2);
        due.is("-2 and 2 are alike", x.shift(0, 2, 8), -2);
        due.is("and the other way round", x.shift(2, 0, 8), -2);
        due.is("by 2 just so", x.shift(0, 2, 2), -2);
        due.is("by 1 all are alike", x.shift(0, 2, 1), 0);
    }

    private static void checkAway() {
        due.sentence("its RUN's last READING is no more than e away from THE PRESS at the RATE, WARMTH there");
        SoftBench x = Benches.ofRates(150);
        due.is("none away", x.check(0), 1);
        x.set(1, 100);
        x.run(0);
        due.is("50 below, by 50", x.check(50), 1);
        due.is("50 below, by 49", x.check(49), 0);
        due.is("by all", x.check(MAX), 1);
        Benches.clear(x);
        Benches.warm(x, 0);
        Benches.step(x, -150, 1);
        x.run(0);
        due.is("50 above, by 50", x.check(50), 1);
        due.is("50 above, by 49", x.check(49), 0);
        Benches.clear(x);
        Benches.warm(x, 0);
        Benches.steps(x, 60, 20);
        x.set(0, 5);
        x.run(0);
        // 30, then (150 + 100) by 10
        due.is("5 above, by 5", x.check(5), 1);
        due.is("5 above, by 4", x.check(4), 0);
    }

    private static void checkThere() {
        due.sentence("THE PRESS at the RATE, WARMTH there");
        SoftBench x = Benches.thin(50);
        Benches.step(x, 10, 1);
        Benches.warm(x, 40);
        x.run(0);
        due.is("WARM behind the last TURN", x.check(0), 1);
        Benches.step(x, 10, 1);
        due.is("a LINE that came since", x.check(0), 1);
        Benches.clear(x);
        due.is("LINES that went since", x.check(0), 1);
        x.set(0, 9);
        x.set(1, 1);
        due.is("LAG and BOUND since", x.check(0), 1);
        x.stuff(1, 1, 500, 1, 0);
        due.is("a STUFF that came since", x.check(0), 1);
    }

    private static void checkRefused() {
        due.sentence("BAD: e below 0; STATE: the latest RUN is not one of an OIL, or its last READING is LOST.");
        new Edges(due, "check", () -> Benches.ofRates(5), BAD).of(0, 0, MAX, 0);
        new Edges(due, "check", SoftBench::new, BAD).of(0, 0, MAX, 0);
        SoftBench x = Benches.ofRates(5, 6, 7);
        x.lose(0);
        x.lose(1);
        due.is("others are LOST", x.check(0), 1);
        x.lose(2);
        due.is("the last is LOST", x.check(0), STATE);
        due.is("and BAD is ahead of that", x.check(-1), BAD);
        x.run(0);
        due.is("a new RUN", x.check(0), 1);
        due.is("passed", x.count(3), 2);
        due.is("failed", x.count(4), 0);
        SoftBench none = Benches.plain();
        Benches.step(none, 1, 1);
        due.is("no RUN", none.check(MAX), STATE);
    }

    private static void checkOil() {
        due.sentence("A CHECK of an OIL (a THIN STUFF)");
        SoftBench x = new SoftBench();
        for (int s = 0; s < 6; s++) {
            x.stuff(s % 3, 5, 0, 100, 0);
        }
        Benches.step(x, 2, 1);
        for (int s = 0; s < 6; s++) {
            x.run(s);
            due.is("KIND " + s % 3, x.check(0), s % 3 == 0 ? 1 : STATE);
        }
        due.is("passed", x.count(3), 2);
    }

    private static void expectDoubts(String name, SoftBench x, int... doubts) {
        int sum = 0;
        for (int c = 0; c < 4; c++) {
            due.is(name + ", CURVE " + c, x.curve(c, 1), doubts[c]);
            sum += doubts[c];
        }
        due.is(name + ", how many", x.count(2), sum);
    }

    /** An OIL whose last READING is 50 away from THE PRESS. */
    private static SoftBench offBy50() {
        SoftBench x = Benches.plain();
        Benches.step(x, 100, 1);
        x.set(1, 50);
        x.run(0);
        return x;
    }

    private static void doubtSince() {
        due.sentence("CURVES that were KEPT since the latest CHECK that passed (or ever) are in DOUBT");
        SoftBench x = offBy50();
        x.keep(0);
        due.is("none has passed ever", x.check(49), 0);
        expectDoubts("KEPT ever", x, 1, 0, 0, 0);
        x = offBy50();
        x.keep(0);
        x.check(50);
        x.keep(1);
        x.keep(2);
        expectDoubts("none has failed", x, 0, 0, 0, 0);
        due.is("fails", x.check(49), 0);
        expectDoubts("KEPT ahead, since, since, never", x, 0, 1, 1, 0);
        x.keep(3);
        expectDoubts("KEPT when it had failed", x, 0, 1, 1, 0);
        due.is("fails once more", x.check(49), 0);
        expectDoubts("and once more", x, 0, 1, 1, 1);
        x = offBy50();
        x.keep(0);
        x.check(49);
        x.keep(1);
        x.check(50);
        x.check(49);
        expectDoubts("one has passed between", x, 1, 0, 0, 0);
    }

    private static void doubtUntilKeptAnew() {
        due.sentence("from when one fails until it is KEPT anew");
        SoftBench x = offBy50();
        x.keep(0);
        x.keep(1);
        x.check(49);
        expectDoubts("fails", x, 1, 1, 0, 0);
        x.check(50);
        expectDoubts("passes", x, 1, 1, 0, 0);
        x.run(0);
        expectDoubts("a RUN", x, 1, 1, 0, 0);
        x.keep(4);
        x.keep(2);
        expectDoubts("others are KEPT", x, 1, 1, 0, 0);
        x.keep(0);
        expectDoubts("KEPT anew", x, 0, 1, 0, 0);
        x.check(50);
        x.check(49);
        expectDoubts("one has passed since", x, 0, 1, 0, 0);
        x.keep(1);
        x.check(49);
        expectDoubts("KEPT anew, and fails", x, 0, 1, 0, 0);
    }

    private static void doubtOfNone() {
        due.sentence("It passes, or fails.");
        SoftBench x = offBy50();
        due.is("fails with no CURVE", x.check(49), 0);
        expectDoubts("none was KEPT", x, 0, 0, 0, 0);
        x.keep(0);
        expectDoubts("KEPT behind it", x, 0, 0, 0, 0);
        due.is("BAD", x.check(-1), BAD);
        expectDoubts("BAD is no failing", x, 0, 0, 0, 0);
        x.lose(0);
        due.is("STATE", x.check(49), STATE);
        expectDoubts("STATE is no failing", x, 0, 0, 0, 0);
        due.is("STATE is no passing", x.check(50), STATE);
        x.run(0);
        x.check(49);
        expectDoubts("so this one finds it", x, 1, 0, 0, 0);
    }

    private static void counts() {
        due.sentence("0 STUFFS, 1 LINES, 2 CURVES in DOUBT, 3 CHECKS that passed, 4 CHECKS that failed, 5 RUNS.");
        SoftBench x = offBy50();
        x.stuff(1, 1, 1, 1, 0);
        x.stuff(2, 1, 1, 1, 0);
        for (int c = 0; c < 4; c++) {
            x.keep(c);
        }
        x.check(0);
        for (int k = 0; k < 5; k++) {
            x.check(50);
        }
        for (int k = 0; k < 6; k++) {
            x.run(k % 3);
        }
        int[] wanted = {3, 2, 4, 5, 1, 7};
        for (int what = 0; what < 6; what++) {
            due.is("count(" + what + ")", x.count(what), wanted[what]);
        }
        x.stuff(3, 0, 0, 0, 0);
        x.line(6, 0, 0, 0, 0);
        x.run(3);
        x.run(1);
        x.check(50);
        x.check(-1);
        wanted[5] = 8;
        for (int what = 0; what < 6; what++) {
            due.is("refused calls count for nothing: count(" + what + ")", x.count(what), wanted[what]);
        }
    }

    private static void countRefused() {
        due.sentence("5 RUNS. BAD.");
        new Edges(due, "count", SoftBench::new, BAD).of(0, 0, 5, 0);
    }
}
