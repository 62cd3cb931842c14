/** Promises 12 (steady) to 16 (area): a test for each sentence that names an edge. */
public final class FoundEdgeTest {
    private static final int BAD = SoftBench.BAD;
    private static final int NONE = SoftBench.NONE;
    private static final int NO = SoftBench.NO;
    private static final int MIN = Integer.MIN_VALUE;
    private static final int MAX = Integer.MAX_VALUE;
    private static final Due due = new Due();

    public static void main(String[] args) {
        steadyFromPlace();
        steadyBehind();
        steadyLost();
        steadyWithin();
        steadyRefused();
        missPoints();
        missOfManyPlaces();
        missRefused();
        missOfFew();
        missInLeastForm();
        missUpAndDown();
        besideBest();
        besideEdges();
        besideOfFarLines();
        besideNone();
        swingRounds();
        swingLostBesideIt();
        swingTakenRound();
        swingFirstTime();
        swingNumbers();
        swingLinesChanged();
        areaOfPlaces();
        areaLost();
        areaRefused();
        due.end();
    }

    private static void steadyFromPlace() {
        due.sentence("the least place from i on");
        SoftBench x = Benches.ofRates(4, 4, 9, 4, 4, 4);
        due.is("the first place itself", x.steady(0, 2, 0), 0);
        due.is("none ahead of i", x.steady(1, 2, 0), 3);
        due.is("i itself", x.steady(4, 2, 0), 4);
        due.is("behind all of them", x.steady(5, 2, 0), NONE);
        due.is("the last place itself", x.steady(5, 1, 0), 5);
    }

    private static void steadyBehind() {
        due.sentence("it and the m - 1 behind it are there");
        SoftBench x = Benches.ofRates(3, 9, 4, 4, 9, 3);
        for (int i = 0; i < 6; i++) {
            due.is("as many as there are from " + i, x.steady(i, 6 - i, MAX), i);
            due.is("one more than that", x.steady(i, 7 - i, MAX), NONE);
            due.is("far more", x.steady(i, MAX, MAX), NONE);
            due.is("it alone", x.steady(i, 1, 0), i);
        }
        SoftBench one = Benches.ofRates(7);
        due.is("one READING", one.steady(0, 1, 0), 0);
        due.is("two of one", one.steady(0, 2, MAX), NONE);
    }

    private static void steadyLost() {
        due.sentence("a READING may be LOST (it is not there any more then)");
        SoftBench x = Benches.ofRates(3, 9, 4, 4, 9, 3);
        x.lose(3);
        due.is("one ahead of it", x.steady(2, 1, 0), 2);
        due.is("it is the last of two", x.steady(2, 2, MAX), 4);
        due.is("it is the first", x.steady(3, 1, 0), 4);
        due.is("three end ahead of it", x.steady(0, 3, MAX), 0);
        due.is("three would end at it", x.steady(1, 3, MAX), NONE);
        x.lose(5);
        due.is("the last place is LOST", x.steady(5, 1, MAX), NONE);
        due.is("one is left", x.steady(3, 1, 0), 4);
        for (int t = 0; t < 6; t++) {
            x.lose(t);
        }
        due.is("all are LOST", x.steady(0, 1, MAX), NONE);
    }

    private static void steadyWithin() {
        due.sentence("the greatest of them is at most e above the least");
        SoftBench x = Benches.ofRates(3, 9, 4, 4, 9, 3);
        due.is("3 and 9 by 6", x.steady(0, 2, 6), 0);
        due.is("9 and 4 by 5", x.steady(0, 2, 5), 1);
        due.is("4 and 4 by 4", x.steady(0, 2, 4), 2);
        due.is("4 and 9 by 5", x.steady(3, 2, 5), 3);
        due.is("9 and 3 by 5", x.steady(4, 2, 5), NONE);
        due.is("9 and 3 by 6", x.steady(4, 2, 6), 4);
        due.is("greatest and least are apart", x.steady(0, 5, 5), NONE);
        due.is("and by 6", x.steady(0, 5, 6), 0);
        SoftBench far = Benches.ofRates(-200, 200);
        due.is("400 by 400", far.steady(0, 2, 400), 0);
        due.is("400 by 399", far.steady(0, 2, 399), NONE);
    }

    private static void steadyRefused() {
        due.sentence("STEADY; NONE. BAD: i is no place, m below 1, e below 0.");
        Edges steady = new Edges(due, "steady", () -> Benches.ofRates(3, 9, 4), BAD);
        steady.of(0, 0, 2, 0, 1, 0);
        steady.of(1, 1, MAX, 0, 0, 0);
        steady.of(2, 0, MAX, 0, 1, 0);
        due.is("no READINGS", new SoftBench().steady(0, 1, 0), BAD);
        due.is("BAD where NONE would be", Benches.ofRates(3).steady(0, 2, -1), BAD);
    }

    private static void expectMiss(String name, SoftBench x, int i, int j, long upper, long lower) {
        due.is(name + ": upper", x.miss(i, j, 0), upper);
        due.is(name + ": lower", x.miss(i, j, 1), lower);
    }

    /** YIELD 10 with slope 1: many at (0, 0), then (1, 11) and (2, 12), which are off by 5 by 2. */
    private static SoftBench bentLine(int rests) {
        SoftBench x = new SoftBench();
        x.stuff(1, 1, 10, 1, 0);
        Benches.warm(x, 0);
        Benches.restTurns(x, rests);
        Benches.steps(x, 1, 2);
        x.run(0);
        return x;
    }

    private static void missPoints() {
        due.sentence("fewer than one or more than 24 POINTS");
        SoftBench x = bentLine(22);
        expectMiss("24 POINTS", x, 0, 23, 5, 2);
        expectMiss("23 POINTS", x, 1, 23, 5, 2);
        x = bentLine(23);
        expectMiss("25 POINTS", x, 0, 24, NO, NO);
        expectMiss("the last 24", x, 1, 24, 5, 2);
        expectMiss("the first 24", x, 0, 23, 0, 1);
        due.is("a line beside 25 POINTS", x.beside(0, 24, 0, 0, 1), NONE);
        x.lose(5);
        expectMiss("24 POINTS and a LOST one", x, 0, 24, 5, 2);
        due.is("a line beside 24 POINTS", x.beside(0, 24, 0, 0, 1), 1);
        expectMiss("no POINT", x, 5, 5, NO, NO);
        due.is("a line beside no POINT", x.beside(5, 5, 0, 0, 1), NONE);
        expectMiss("one POINT and a LOST one", x, 5, 6, 0, 1);
        x.lose(6);
        expectMiss("no POINT of two", x, 5, 6, NO, NO);
    }

    private static void missOfManyPlaces() {
        due.sentence("(POINTS are RATE and READING of those that are not LOST, 24 at most)");
        SoftBench x = bentLine(398);
        for (int t = 20; t < 395; t++) {
            x.lose(t);
        }
        expectMiss("25 of 400 are left", x, 0, 399, NO, NO);
        x.lose(0);
        expectMiss("24 of 400 are left", x, 0, 399, 5, 2);
        due.is("their best line", x.beside(0, 399, 5, 12, 2), 0);
        due.is("another", x.beside(0, 399, 4, 12, 2), 1);
    }

    private static void missRefused() {
        due.sentence("NO: BAD (i above j, no such places); fewer than one or more than 24 POINTS.");
        Edges miss = new Edges(due, "miss", () -> Benches.ofRates(3, 9, 4, 5), NO);
        miss.of(0, 0, 2, 0, 2, 0);
        miss.of(0, 0, 3, 0, 3, 1);
        miss.of(1, 1, 3, 1, 0, 0);
        miss.of(2, 0, 1, 0, 3, 0);
        due.is("no READINGS", new SoftBench().miss(0, 0, 0), NO);
        due.is("beyond on both sides", Benches.ofRates(3, 9).miss(MIN, MAX, 0), NO);
    }

    private static void missOfFew() {
        due.sentence("the least number d such that some straight line is no more than d away (up and down) from each POINT");
        SoftBench x = Benches.ofRates(3, 9, -7);
        for (int t = 0; t < 3; t++) {
            expectMiss("one POINT", x, t, t, 0, 1);
        }
        expectMiss("two POINTS", x, 0, 1, 0, 1);
        expectMiss("three on a line", x, 0, 2, 0, 1);
    }

    private static void missInLeastForm() {
        due.sentence("a fraction, in its least form");
        SoftBench x = Benches.plain();
        Benches.steps(x, -200, 1, 200);
        x.set(0, 2);
        x.run(0);
        // (-200, -160) (1, -31) (200, 153): the midst is 11313 by 400 below, half of it
        expectMiss("nothing to shorten by", x, 0, 2, 11313, 800);
        due.is("its line", x.beside(0, 2, -14113, 626, 800), 0);
        x = Benches.plain();
        Benches.step(x, 8, 3);
        x.set(0, 5);
        x.run(0);
        // 4 6 7 at one RATE
        expectMiss("2 by 2", x, 0, 1, 1, 1);
        expectMiss("1 by 2", x, 1, 2, 1, 2);
        expectMiss("3 by 2", x, 0, 2, 3, 2);
        x = new SoftBench();
        x.stuff(1, 0, 12, 1, 0);
        Benches.steps(x, -1, 0, 1, 2);
        x.run(0);
        // (-1, -12) (0, 0) (1, 12) (2, 12): 12 at 1 is 8 above the chord from -1 to 2
        expectMiss("48 by 12", x, 0, 3, 4, 1);
    }

    private static void missUpAndDown() {
        due.sentence("no more than d away (up and down)");
        SoftBench x = new SoftBench();
        x.stuff(1, 0, 10, 1, 0);
        Benches.steps(x, 0, 1, 2, 0, -1, -2);
        x.run(0);
        expectMiss("the midst is above", x, 0, 2, 5, 2);
        expectMiss("the midst is below", x, 3, 5, 5, 2);
        x = new SoftBench();
        x.stuff(1, 0, 10, 1, 0);
        Benches.steps(x, 1, 2, 0, 2, 1);
        x.run(0);
        expectMiss("the midst comes first", x, 0, 2, 5, 2);
        expectMiss("the midst comes last", x, 2, 4, 5, 2);
        x = Benches.plain();
        Benches.steps(x, 8, 0, 8);
        x.set(0, 5);
        x.run(0);
        // (8, 4) (0, 2) (8, 5): two of one RATE, and one that is free
        expectMiss("two of one RATE", x, 0, 2, 1, 2);
    }

    private static void besideBest() {
        due.sentence("1 more than THE MISS, 0 as THE MISS");
        SoftBench x = Benches.plain();
        Benches.steps(x, -200, 1, 200);
        x.set(0, 2);
        x.run(0);
        due.is("the best", x.beside(0, 2, -14113, 626, 800), 0);
        int[][] off = {{-14112, 626, 800}, {-14114, 626, 800}, {-14113, 625, 800}, {-14113, 627, 800},
            {-14113, 626, 799}, {-14113, 626, 801}};
        for (int[] o : off) {
            due.is(Calls.told("by", o), x.beside(0, 2, o[0], o[1], o[2]), 1);
        }
        due.is("a line through one POINT", x.beside(1, 1, -31, 0, 1), 0);
        due.is("a line just beside it", x.beside(1, 1, -31001, 0, 1000), 1);
        due.is("just beside it on the other side", x.beside(1, 1, -30999, 0, 1000), 1);
    }

    private static void besideEdges() {
        due.sentence("BAD: u, v beyond -1000000 .. 1000000, w beyond 1 .. 1000.");
        Edges beside = new Edges(due, "beside", () -> Benches.ofRates(3, 9, 4, 5), BAD);
        beside.of(2, -1000000, 1000000, 0, 3, 0, 0, 1);
        beside.of(3, -1000000, 1000000, 0, 3, 0, 0, 1);
        beside.of(4, 1, 1000, 0, 3, 0, 0, 0);
        Edges nowhere = new Edges(due, "beside", SoftBench::new, BAD);
        nowhere.of(2, -1000000, 1000000, 0, 0, 0, 0, 1);
        nowhere.of(3, -1000000, 1000000, 0, 0, 0, 0, 1);
        nowhere.of(4, 1, 1000, 0, 0, 0, 0, 0);
    }

    private static void besideOfFarLines() {
        due.sentence("How far the line that is u + v x by w (w 1 or more) is away at most from POINTS of places i .. j");
        SoftBench x = new SoftBench();
        x.stuff(0, 50, 0, 1, 0);
        Benches.warm(x, 0);
        Benches.steps(x, 20, -20, 1, 0);
        x.run(0);
        // (20, 1000) (-20, -1000) (1, 50) (0, 0)
        due.is("u at most, w at most", x.beside(0, 0, 1000000, 0, 1000), 0);
        due.is("u at least, w at most", x.beside(1, 1, -1000000, 0, 1000), 0);
        due.is("v at most, w at most", x.beside(2, 2, -950000, 1000000, 1000), 0);
        due.is("v at most at RATE 0", x.beside(3, 3, 0, 1000000, 1), 0);
        due.is("v at least at RATE 0", x.beside(3, 3, 0, -1000000, 1000), 0);
        due.is("far off", x.beside(0, 3, 1000000, 1000000, 1), 1);
        due.is("far off on the other side", x.beside(0, 3, -1000000, -1000000, 1), 1);
        due.is("all on a line", x.beside(0, 3, 0, 50, 1), 0);
        due.is("all on a line, by 1000", x.beside(0, 3, 0, 50000, 1000), 0);
        x = Benches.ofRates(1);
        due.is("both at the edge", x.beside(0, 0, 1000000, -1000000, 1), 1);
        due.is("both nearly there", x.beside(0, 0, 1000000, -999999, 1), 0);
    }

    private static void besideNone() {
        due.sentence("NONE: as miss() tells NO.");
        Edges beside = new Edges(due, "beside", () -> Benches.ofRates(3, 9, 4, 5), NONE);
        beside.of(0, 0, 2, 0, 2, 0, 0, 1);
        beside.of(1, 1, 3, 1, 0, 0, 0, 1);
        due.is("no READINGS", new SoftBench().beside(0, 0, 0, 0, 1), NONE);
    }

    private static void expectSwing(String name, SoftBench x, int line, long rounds, long in, long across) {
        due.is(name + ": ROUNDS", x.swing(line, 0), rounds);
        due.is(name + ": IN", x.swing(line, 1), in);
        due.is(name + ": ACROSS", x.swing(line, 2), across);
    }

    private static void swingRounds() {
        due.sentence("ROUNDS without a LOST READING");
        // a ROUND of 4: 0 5 0 -5, IN 50
        for (int j = 0; j < 4; j++) {
            SoftBench x = Benches.plain();
            Benches.swing(x, 5, 1, 9);
            x.run(0);
            expectSwing("nine", x, 1, 9, 450, 0);
            x.lose(j);
            expectSwing("the first has LOST " + j, x, 1, 8, 400, 0);
            x.lose(32 + j);
            expectSwing("the last has LOST " + j, x, 1, 7, 350, 0);
            for (int round = 1; round < 8; round++) {
                x.lose(4 * round + j);
                expectSwing("so many have LOST " + j, x, 1, 7 - round, 350 - 50 * round, 0);
            }
        }
    }

    private static void swingLostBesideIt() {
        due.sentence("ROUNDS without a LOST READING");
        SoftBench x = Benches.plain();
        Benches.step(x, 9, 1);
        Benches.swing(x, 5, 1, 1);
        Benches.step(x, 9, 1);
        x.run(0);
        x.lose(0);
        expectSwing("LOST just ahead of it", x, 2, 1, 50, 0);
        x.lose(5);
        expectSwing("LOST just behind it", x, 2, 1, 50, 0);
        x.lose(4);
        expectSwing("LOST in it", x, 2, 0, 0, 0);
    }

    private static void swingTakenRound() {
        due.sentence("READING times the RATE of n TURNS before it in its ROUND (the ROUND taken round)");
        SoftBench x = Benches.plain();
        Benches.step(x, 40, 1);
        Benches.swing(x, 4, 2, 1);
        x.set(0, 5);
        x.run(0);
        // 20, then RATES 0 2 4 2 0 -2 -4 -2: 10 6 5 3 1 0 -2 -2
        // RATES of two before: -4 -2 0 2 4 2 0 -2
        expectSwing("a ROUND of 8", x, 2, 1, 12 + 20 + 6 + 8 + 4, -40 - 12 + 6 + 4 + 4);
    }

    private static void swingFirstTime() {
        due.sentence("(of its first time, where AGAIN repeats it)");
        SoftBench x = Benches.plain();
        Benches.swing(x, 5, 1, 1);
        Benches.again(x, 1, 5);
        due.is("run", x.run(0), 24);
        expectSwing("six times", x, 1, 1, 50, 0);
        x.lose(4);
        expectSwing("LOST right behind its first time", x, 1, 1, 50, 0);
        x.lose(23);
        expectSwing("LOST in its last time", x, 1, 1, 50, 0);
        x.lose(3);
        expectSwing("LOST at the end of its first time", x, 1, 0, 0, 0);
    }

    /** LINES of every KIND; LINE 2 is the SWING. */
    private static SoftBench allKinds() {
        SoftBench x = Benches.thin(1);
        Benches.step(x, 5, 1);
        Benches.ramp(x, 0, 5, 4);
        Benches.swing(x, 5, 1, 1);
        Benches.rest(x, 4);
        Benches.warm(x, 5);
        Benches.again(x, 2, 1);
        x.run(0);
        return x;
    }

    private static void swingNumbers() {
        due.sentence("NO: BAD: no SWING");
        Edges swing = new Edges(due, "swing", FoundEdgeTest::allKinds, NO);
        swing.of(0, 2, 2, 2, 0);
        swing.of(1, 0, 2, 2, 0);
        SoftBench x = allKinds();
        for (int l = -1; l <= 7; l++) {
            due.is("LINE " + l, x.swing(l, 0), l == 2 ? 1 : NO);
        }
        SoftBench full = Benches.thin(1);
        for (int l = 0; l < 10; l++) {
            Benches.swing(full, 5, 1, 1);
        }
        full.run(0);
        new Edges(due, "swing", () -> full, NO).of(0, 0, 9, 0, 0);
    }

    private static void swingLinesChanged() {
        due.sentence("or it was not so in the latest RUN (LINES changed since, or there was none)");
        SoftBench x = Benches.thin(1);
        Benches.swing(x, 5, 1, 1);
        due.is("there was no RUN", x.swing(0, 0), NO);
        due.is("a refused RUN", x.run(1), BAD);
        due.is("is none", x.swing(0, 0), NO);
        x.run(0);
        due.is("as in the latest RUN", x.swing(0, 0), 1);
        x.line(0, 201, 0, 1, 0);
        x.line(5, 1, 0, 1, 0);
        due.is("LINES that were refused", x.swing(0, 0), 1);
        x.set(0, 5);
        x.set(1, 5);
        x.stuff(0, 1, 0, 1, 0);
        x.keep(0);
        x.check(0);
        x.lose(9);
        due.is("what is no LINE", x.swing(0, 0), 1);
        Benches.warm(x, 5);
        due.is("a LINE came", x.swing(0, 0), NO);
        due.is("nor is there another", x.swing(1, 0), NO);
        x.run(0);
        due.is("a RUN with it", x.swing(0, 0), 1);
        x.drop();
        due.is("a LINE went", x.swing(0, 0), NO);
        x.run(0);
        x.drop();
        due.is("the SWING went", x.swing(0, 0), NO);
        Benches.swing(x, 7, 2, 2);
        due.is("another came in its place", x.swing(0, 0), NO);
        x.run(0);
        due.is("a RUN of that", x.swing(0, 0), 2);
        for (int l = 1; l < 10; l++) {
            Benches.rest(x, 1);
        }
        x.run(0);
        due.is("a LINE that was FULL", Benches.rest(x, 1), SoftBench.FULL);
        due.is("changes none", x.swing(0, 0), 2);
        Benches.clear(x);
        x.run(0);
        due.is("a RUN that was refused brings none back", x.swing(0, 0), NO);
    }

    private static void areaOfPlaces() {
        due.sentence("the sum, over places t from i up to j - 1, of (RATE at t + 1 less RATE at t) times (READING at t and t + 1)");
        SoftBench x = Benches.ofRates(1, 4, 2, -200, 200);
        for (int t = 0; t < 5; t++) {
            due.is("one place", x.area(t, t), 0);
        }
        due.is("the first two", x.area(0, 1), 3 * 5);
        due.is("the first three", x.area(0, 2), 3 * 5 - 2 * 6);
        due.is("two in the midst", x.area(2, 3), -202 * -198);
        due.is("the last two", x.area(3, 4), 0);
        due.is("all", x.area(0, 4), 15 - 12 + 202 * 198);
        SoftBench far = new SoftBench();
        far.stuff(1, 50, 500, 1, 0);
        Benches.warm(far, 40);
        Benches.step(far, -200, 1);
        Benches.warm(far, 0);
        Benches.step(far, 200, 1);
        Benches.warm(far, 40);
        Benches.step(far, 200, 1);
        Benches.warm(far, 0);
        Benches.step(far, -200, 1);
        Benches.again(far, 0, 5);
        due.is("run", far.run(0), 24);
        // -2500 to 10500 by 400, and 2500 to -10500 by -400: six times each
        due.is("the greatest steps", far.area(0, 23), 12L * 400 * 8000);
    }

    private static void areaLost() {
        due.sentence("THE AREA. NO: BAD, or one is LOST.");
        SoftBench x = Benches.ofRates(1, 4, 2, 7, 9);
        x.lose(2);
        int[][] rows = {{0, 1, 15}, {0, 2, NO}, {1, 2, NO}, {2, 3, NO}, {2, 4, NO}, {0, 4, NO}, {1, 3, NO}, {3, 4, 32},
            {1, 1, 0}, {3, 3, 0}};
        for (int[] row : rows) {
            due.is(Calls.told("area", row[0], row[1]), x.area(row[0], row[1]), row[2]);
        }
    }

    private static void areaRefused() {
        due.sentence("THE AREA. NO: BAD, or one is LOST.");
        Edges area = new Edges(due, "area", () -> Benches.ofRates(1, 4, 2, 7, 9), NO);
        area.of(0, 0, 3, 0, 3);
        area.of(0, 0, 4, 0, 4);
        area.of(1, 1, 4, 1, 0);
        due.is("no READINGS", new SoftBench().area(0, 0), NO);
        due.is("beyond on both sides", Benches.ofRates(1, 2).area(MIN, MAX), NO);
    }
}
