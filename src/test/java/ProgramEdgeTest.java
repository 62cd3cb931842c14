/** Promises 4 (line) to 11 (about): a test for each sentence that names an edge. */
public final class ProgramEdgeTest {
    private static final int BAD = SoftBench.BAD;
    private static final int STATE = SoftBench.STATE;
    private static final int FULL = SoftBench.FULL;
    private static final int NONE = SoftBench.NONE;
    private static final int NO = SoftBench.NO;
    private static final int MAX = Integer.MAX_VALUE;
    private static final Due due = new Due();
    /** Three LINES are ahead, so that AGAIN has some to repeat. */
    private static final Edges told = new Edges(due, "line", ProgramEdgeTest::threeRests, BAD);

    public static void main(String[] args) {
        tenLines();
        lineNumbers();
        stepEdges();
        rampEdges();
        swingEdges();
        restEdges();
        warmEdges();
        againEdges();
        againOverAgain();
        againTimes();
        numbersNotLookedAt();
        rampOfOne();
        rampIsRounded();
        swingTurns();
        beginsAtWarmth20();
        warmFromThereOn();
        dropLast();
        turnsBeyond400();
        setWhatItWas();
        lagAndBound();
        zeroAheadOfTheFirst();
        readingIsRounded();
        beyondBound();
        beyondBigBound();
        boundedReadingLags();
        atMost400();
        noTurn();
        runOfAStuff();
        latestRun();
        loseOnce();
        atPlaces();
        aboutRun();
        due.end();
    }

    private static SoftBench threeRests() {
        SoftBench x = Benches.thin(1);
        for (int l = 0; l < 3; l++) {
            Benches.rest(x, 1);
        }
        return x;
    }

    private static void column(String name, SoftBench x, int what, int... wanted) {
        for (int t = 0; t < wanted.length; t++) {
            due.is(name + " at " + t, x.at(t, what), wanted[t]);
        }
    }

    private static void tenLines() {
        due.sentence("THE PROGRAM is up to 10 LINES");
        SoftBench x = new SoftBench();
        for (int l = 0; l < 10; l++) {
            due.is("LINE " + l, Benches.rest(x, 1), l);
            due.is("how many with LINE " + l, x.count(1), l + 1);
        }
        for (int kind = 0; kind <= 5; kind++) {
            due.is("an 11th of KIND " + kind, x.line(kind, 9, 9, 5, 5), FULL);
        }
        due.is("how many", x.count(1), 10);
        due.is("TURNS", x.turns(), 10);
        due.is("one goes", x.drop(), 9);
        due.is("one comes", Benches.step(x, 1, 60), 9);
        due.is("TURNS then", x.turns(), 69);
        due.is("an 11th", Benches.rest(x, 1), FULL);
    }

    private static void lineNumbers() {
        due.sentence("A LINE of a KIND comes to the end: its number.");
        told.of(0, 0, 5, 0, 1, 1, 1, 1);
        SoftBench x = threeRests();
        due.is("its number", Benches.step(x, 1, 1), 3);
        due.is("it is the last", x.drop(), 3);
        due.is("TURNS of those ahead", x.turns(), 3);
    }

    private static void stepEdges() {
        due.sentence("0 STEP r n: n TURNS at RATE r.");
        told.of(1, -200, 200, 0, 0, 0, 5, 0);
        told.of(3, 1, 60, 0, 5, 0, 0, 0);
        SoftBench x = Benches.thin(1);
        Benches.step(x, 200, 1);
        Benches.step(x, -200, 60);
        due.is("run", x.run(0), 61);
        due.is("a STEP of 1", x.at(0, 1), 200);
        due.is("the first of 60", x.at(1, 1), -200);
        due.is("the last of 60", x.at(60, 1), -200);
    }

    private static void rampEdges() {
        due.sentence("(r, a, b -200 .. 200; n 1 .. 60; m 1 .. 9; of AGAIN n 1 .. 5.)");
        told.of(1, -200, 200, 1, 0, 0, 5, 0);
        told.of(2, -200, 200, 1, 0, 0, 5, 0);
        told.of(3, 1, 60, 1, 5, 5, 0, 0);
        // b must be as told even where a RAMP of 1 does not come to it
        told.of(2, -200, 200, 1, 0, 0, 1, 0);
    }

    private static void swingEdges() {
        due.sentence("2 SWING r n m: m ROUNDS of 4 n TURNS");
        told.of(1, -200, 200, 2, 0, 0, 5, 5);
        told.of(3, 1, 60, 2, 5, 0, 0, 5);
        told.of(4, 1, 9, 2, 5, 0, 5, 0);
        int[][] rows = {{1, 1, 4}, {1, 9, 36}, {60, 1, 240}, {60, 9, 2160}};
        for (int[] row : rows) {
            SoftBench x = new SoftBench();
            Benches.swing(x, 5, row[0], row[1]);
            due.is("n " + row[0] + ", m " + row[1], x.turns(), row[2]);
        }
    }

    private static void restEdges() {
        due.sentence("3 REST n: n TURNS at RATE 0.");
        told.of(3, 1, 60, 3, 0, 0, 0, 0);
        SoftBench x = Benches.thin(1);
        x.line(3, 200, 200, 60, 9);
        due.is("run", x.run(0), 60);
        due.is("the first", x.at(0, 1), 0);
        due.is("the last", x.at(59, 1), 0);
    }

    private static void warmEdges() {
        due.sentence("4 WARM h: no TURN; WARMTH h from there on.");
        told.of(1, 0, 40, 4, 0, 0, 0, 0);
        SoftBench x = Benches.thin(1);
        Benches.warm(x, 0);
        due.is("no TURN", x.turns(), 0);
        Benches.rest(x, 1);
        Benches.warm(x, 40);
        Benches.rest(x, 1);
        due.is("run", x.run(0), 2);
        column("WARMTH", x, 2, 0, 40);
    }

    private static void againEdges() {
        due.sentence("l is below this one's number");
        told.of(1, 0, 2, 5, 0, 0, 1, 0);
        SoftBench x = new SoftBench();
        due.is("nothing is ahead", Benches.again(x, 0, 1), BAD);
        Benches.rest(x, 1);
        due.is("itself", Benches.again(x, 1, 1), BAD);
        due.is("the one ahead", Benches.again(x, 0, 1), 1);
        x = new SoftBench();
        for (int l = 0; l < 9; l++) {
            Benches.rest(x, 1);
        }
        due.is("the last LINE may be AGAIN", Benches.again(x, 8, 1), 9);
        x.drop();
        due.is("and may begin at the first", Benches.again(x, 0, 1), 9);
    }

    private static void againOverAgain() {
        due.sentence("none of these is an AGAIN");
        SoftBench x = threeRests();
        due.is("AGAIN", Benches.again(x, 2, 1), 3);
        for (int l = 0; l <= 3; l++) {
            due.is("right behind it, from " + l, Benches.again(x, l, 1), BAD);
        }
        Benches.rest(x, 1);
        for (int l = 0; l <= 3; l++) {
            due.is("over it, from " + l, Benches.again(x, l, 1), BAD);
        }
        due.is("TURNS", x.turns(), 5);
        due.is("from behind it", Benches.again(x, 4, 1), 5);
        due.is("TURNS with both", x.turns(), 6);
        x.drop();
        x.drop();
        x.drop();
        due.is("when it is gone", Benches.again(x, 0, 1), 3);
        x.drop();
        Benches.rest(x, 1);
        due.is("when another stands in its place", Benches.again(x, 0, 1), 4);
    }

    private static void againTimes() {
        due.sentence("LINES l up to the one ahead of this one are done n times more");
        told.of(3, 1, 5, 5, 0, 0, 0, 0);
        for (int n : new int[] {1, 5}) {
            SoftBench x = Benches.thin(1);
            Benches.steps(x, 1, 2, 3);
            Benches.again(x, 1, n);
            Benches.step(x, 4, 1);
            due.is("run, n " + n, x.run(0), 4 + 2 * n);
            for (int time = 0; time <= n; time++) {
                due.is("l, n " + n, x.at(1 + 2 * time, 1), 2);
                due.is("the one ahead, n " + n, x.at(2 + 2 * time, 1), 3);
            }
            due.is("the one behind AGAIN, n " + n, x.at(3 + 2 * n, 1), 4);
            due.is("its number", x.at(3 + 2 * n, 3), 4);
            due.is("the number of a LINE done again", x.at(2 * n + 1, 3), 1);
        }
    }

    private static void numbersNotLookedAt() {
        due.sentence("(Numbers that a LINE has not are not looked at: STEP a, n; RAMP a, b, n; SWING a, n, m; REST n;"
            + " WARM a; AGAIN a, n.)");
        int[][] hasNot = {{2, 4}, {4}, {2}, {1, 2, 4}, {2, 3, 4}, {2, 4}};
        for (int kind = 0; kind <= 5; kind++) {
            for (int which : hasNot[kind]) {
                told.notLookedAt(which, kind, 1, 1, 1, 1);
            }
        }
    }

    private static void rampOfOne() {
        due.sentence("(n 1: a)");
        SoftBench x = Benches.thin(1);
        Benches.ramp(x, 7, -200, 1);
        Benches.ramp(x, -200, 200, 1);
        Benches.ramp(x, 7, -200, 2);
        due.is("run", x.run(0), 4);
        column("RATE", x, 1, 7, -200, 7, -200);
    }

    private static void rampIsRounded() {
        due.sentence("the i-th (i 0 .. n - 1) at a and (b - a) i by n - 1, rounded towards 0");
        SoftBench x = Benches.thin(1);
        Benches.ramp(x, 0, 1, 3);
        Benches.ramp(x, 0, -1, 3);
        Benches.ramp(x, 0, 3, 3);
        Benches.ramp(x, 0, -3, 3);
        Benches.ramp(x, 5, 5, 2);
        x.run(0);
        column("RATE", x, 1, 0, 0, 1, 0, 0, -1, 0, 1, 3, 0, -1, -3, 5, 5);
        x = Benches.thin(1);
        Benches.ramp(x, 200, -200, 60);
        Benches.ramp(x, -200, 200, 60);
        due.is("run", x.run(0), 120);
        // 400 by 59 is 6 and a bit, 58 times that 393 and a bit
        int[][] rows = {{0, 200}, {1, 194}, {58, -193}, {59, -200}, {60, -200}, {61, -194}, {118, 193}, {119, 200}};
        for (int[] row : rows) {
            due.is("RATE at " + row[0], x.at(row[0], 1), row[1]);
        }
    }

    private static void swingTurns() {
        due.sentence("of the j-th TURN of a ROUND the RATE is r j / n (j up to n), r (2 n - j) / n (j up to 3 n),"
            + " r (j - 4 n) / n (above), each rounded towards 0");
        int[][] rows = {{0, 0}, {1, 3}, {59, 196}, {60, 200}, {61, 196}, {119, 3}, {120, 0}, {121, -3}, {179, -196},
            {180, -200}, {181, -196}, {239, -3}};
        for (int sign : new int[] {1, -1}) {
            SoftBench x = Benches.thin(1);
            Benches.swing(x, 200 * sign, 60, 1);
            due.is("a ROUND of 240", x.run(0), 240);
            for (int[] row : rows) {
                due.is("RATE at " + row[0], x.at(row[0], 1), row[1] * sign);
            }
        }
        SoftBench x = Benches.thin(1);
        Benches.swing(x, 1, 2, 2);
        due.is("two ROUNDS of 8", x.run(0), 16);
        column("RATE", x, 1, 0, 0, 1, 0, 0, 0, -1, 0, 0, 0, 1, 0, 0, 0, -1, 0);
    }

    private static void beginsAtWarmth20() {
        due.sentence("A RUN of a STUFF begins at WARMTH 20");
        SoftBench x = Benches.thin(50);
        Benches.step(x, 1, 1);
        Benches.warm(x, 40);
        x.run(0);
        due.is("with no WARM ahead", x.at(0, 2), 20);
        due.is("50 by 30 by 50", x.at(0, 0), 30);
        x.run(0);
        due.is("a second RUN", x.at(0, 2), 20);
    }

    private static void warmFromThereOn() {
        due.sentence("WARMTH h from there on");
        SoftBench x = Benches.thin(50);
        Benches.step(x, 1, 1);
        Benches.warm(x, 0);
        Benches.warm(x, 40);
        Benches.step(x, 1, 2);
        Benches.again(x, 0, 1);
        Benches.step(x, 1, 1);
        due.is("run", x.run(0), 7);
        column("WARMTH", x, 2, 20, 40, 40, 40, 40, 40, 40);
        column("READING", x, 0, 30, 10, 10, 10, 10, 10, 10);
    }

    private static void dropLast() {
        due.sentence("The last LINE is gone: how many are left. STATE: there is none.");
        SoftBench x = new SoftBench();
        due.is("there is none", x.drop(), STATE);
        due.is("and none then", x.count(1), 0);
        for (int l = 0; l < 10; l++) {
            Benches.rest(x, l + 1);
        }
        for (int left = 9; left >= 0; left--) {
            due.is("how many are left", x.drop(), left);
            due.is("TURNS of those", x.turns(), left * (left + 1) / 2);
        }
        due.is("there is none any more", x.drop(), STATE);
        due.is("the next is the first again", Benches.rest(x, 1), 0);
    }

    private static void turnsBeyond400() {
        due.sentence("How many TURNS THE PROGRAM has (also beyond 400).");
        SoftBench x = new SoftBench();
        due.is("no LINE", x.turns(), 0);
        Benches.restTurns(x, 399);
        due.is("399", x.turns(), 399);
        Benches.rest(x, 1);
        due.is("400", x.turns(), 400);
        Benches.rest(x, 1);
        due.is("401", x.turns(), 401);
        Benches.clear(x);
        for (int l = 0; l < 9; l++) {
            Benches.swing(x, 200, 60, 9);
        }
        due.is("nine of the longest LINES", x.turns(), 9 * 2160);
        Benches.again(x, 0, 5);
        due.is("and five times more", x.turns(), 6 * 9 * 2160);
        x.drop();
        Benches.swing(x, 200, 60, 9);
        due.is("ten of the longest LINES", x.turns(), 10 * 2160);
    }

    private static void setWhatItWas() {
        due.sentence("LAG (what = 0), BOUND (1) becomes v: what it was. BAD.");
        new Edges(due, "set", SoftBench::new, BAD).of(0, 0, 1, 0, 1);
        SoftBench x = new SoftBench();
        due.is("LAG", x.set(0, 7), 0);
        due.is("the same LAG", x.set(0, 7), 7);
        due.is("BOUND", x.set(1, 7), 100000);
        due.is("the same BOUND", x.set(1, 7), 7);
        due.is("LAG is as it was", x.set(0, 1), 7);
        due.is("BOUND is as it was", x.set(1, 1), 7);
    }

    private static void lagAndBound() {
        due.sentence("LAG is 0 .. 9 (0 at first), BOUND 1 .. 100000 (100000 at first).");
        Edges set = new Edges(due, "set", SoftBench::new, BAD);
        set.of(1, 0, 9, 0, 0);
        set.of(1, 1, 100000, 1, 0);
        SoftBench x = new SoftBench();
        due.is("LAG at first", x.set(0, 9), 0);
        due.is("no LAG of 10", x.set(0, 10), BAD);
        due.is("no LAG of -1", x.set(0, -1), BAD);
        due.is("LAG at most", x.set(0, 0), 9);
        due.is("LAG at least", x.set(0, 4), 0);
        due.is("BOUND at first", x.set(1, 1), 100000);
        due.is("no BOUND of 0", x.set(1, 0), BAD);
        due.is("no BOUND of 100001", x.set(1, 100001), BAD);
        due.is("BOUND at least", x.set(1, 100000), 1);
        due.is("BOUND at most", x.set(1, 5), 100000);
        due.is("LAG is apart from BOUND", x.set(0, 4), 4);
    }

    private static void zeroAheadOfTheFirst() {
        due.sentence("with q THE READING before it (0 ahead of the first)");
        SoftBench x = Benches.plain();
        Benches.step(x, 100, 2);
        x.set(0, 9);
        for (int time = 0; time < 3; time++) {
            x.run(0);
            column("RUN " + time, x, 0, 10, 19);
        }
    }

    private static void readingIsRounded() {
        due.sentence("(LAG q + (10 - LAG) P) by 10, rounded towards 0");
        int[][] rows = {{9, 0}, {10, 1}, {19, 1}, {20, 2}};
        for (int[] row : rows) {
            for (int sign : new int[] {1, -1}) {
                SoftBench x = Benches.plain();
                Benches.step(x, sign * row[0], 1);
                x.set(0, 9);
                x.run(0);
                due.is(sign * row[0] + " by 10", x.at(0, 0), sign * row[1]);
                x.set(0, 0);
                x.run(0);
                due.is("LAG 0", x.at(0, 0), sign * row[0]);
            }
        }
        SoftBench x = Benches.plain();
        Benches.steps(x, 3, -2, 0, 5);
        x.set(0, 5);
        x.run(0);
        // 15 by 10, -5 by 10, 0, 25 by 10
        column("LAG 5", x, 0, 1, 0, 0, 2);
    }

    private static void beyondBound() {
        due.sentence("beyond BOUND or - BOUND it is that, and CLIPPED");
        SoftBench x = Benches.plain();
        Benches.steps(x, 99, 100, 101, -99, -100, -101, 0);
        x.set(1, 100);
        x.run(0);
        column("BOUND 100", x, 0, 99, 100, 100, -99, -100, -100, 0);
        due.is("CLIPPED", x.about(2), 2);
        x.set(1, 1);
        x.run(0);
        column("BOUND 1", x, 0, 1, 1, 1, -1, -1, -1, 0);
        due.is("CLIPPED by 1", x.about(2), 6);
        x.set(1, 101);
        x.run(0);
        due.is("none is CLIPPED", x.about(2), 0);
    }

    private static void beyondBigBound() {
        due.sentence("beyond BOUND or - BOUND it is that, and CLIPPED");
        SoftBench x = new SoftBench();
        x.stuff(1, 50, 500, 1, 0);
        Benches.warm(x, 0);
        Benches.steps(x, 200, -200);
        x.run(0);
        column("the greatest PRESS there is", x, 0, 10500, -10500);
        due.is("none CLIPPED by the first BOUND", x.about(2), 0);
        x.set(1, 10500);
        x.run(0);
        due.is("none CLIPPED by 10500", x.about(2), 0);
        x.set(1, 10499);
        x.run(0);
        column("BOUND 10499", x, 0, 10499, -10499);
        due.is("both CLIPPED", x.about(2), 2);
    }

    private static void boundedReadingLags() {
        due.sentence("THE READING before it");
        SoftBench x = Benches.plain();
        Benches.steps(x, 200, 0, -200, 0);
        x.set(0, 5);
        x.set(1, 40);
        x.run(0);
        // 100 is 40; half of it; (20 - 200) by 2 is -40; half of it
        column("READING", x, 0, 40, 20, -40, -20);
        due.is("CLIPPED", x.about(2), 2);
    }

    private static void atMost400() {
        due.sentence("At most 400 TURNS.");
        SoftBench x = Benches.thin(1);
        Benches.restTurns(x, 399);
        due.is("399", x.run(0), 399);
        Benches.step(x, 5, 1);
        due.is("400", x.run(0), 400);
        due.is("the last", x.at(399, 1), 5);
        due.is("there is none behind it", x.at(400, 1), NO);
        Benches.rest(x, 1);
        due.is("401", x.run(0), STATE);
        due.is("RUNS", x.count(5), 2);
        due.is("READINGS are as they were", x.about(0), 400);
        due.is("the last is as it was", x.at(399, 1), 5);
        Benches.clear(x);
        Benches.swing(x, 7, 50, 2);
        due.is("400 in one LINE", x.run(0), 400);
        Benches.clear(x);
        Benches.rest(x, 50);
        Benches.rest(x, 30);
        Benches.again(x, 0, 4);
        due.is("400 by AGAIN", x.run(0), 400);
        Benches.rest(x, 1);
        due.is("401 by AGAIN", x.run(0), STATE);
        Benches.clear(x);
        Benches.swing(x, 7, 60, 9);
        Benches.again(x, 0, 5);
        due.is("far beyond", x.run(0), STATE);
    }

    private static void noTurn() {
        due.sentence("STATE: THE PROGRAM has no TURN, or more than 400.");
        SoftBench x = Benches.thin(1);
        due.is("no LINE", x.run(0), STATE);
        Benches.warm(x, 5);
        due.is("WARM alone", x.run(0), STATE);
        Benches.again(x, 0, 5);
        due.is("WARM again", x.run(0), STATE);
        due.is("no RUN", x.count(5), 0);
        due.is("no READINGS", x.about(0), 0);
        Benches.rest(x, 1);
        due.is("one TURN", x.run(0), 1);
    }

    private static void runOfAStuff() {
        due.sentence("A RUN of a STUFF: how many READINGS. BAD");
        new Edges(due, "run", ProgramEdgeTest::threeRests, BAD).of(0, 0, 0, 0);
        SoftBench x = threeRests();
        for (int s = 1; s < 6; s++) {
            due.is("no STUFF " + s + " yet", x.run(s), BAD);
            x.stuff(s % 3, 1, 1, 1, 1);
            due.is("STUFF " + s, x.run(s), 3);
        }
        due.is("no 7th", x.run(6), BAD);
        due.is("RUNS", x.count(5), 5);
    }

    private static void latestRun() {
        due.sentence("READINGS (with RATES, WARMTHS) of the latest RUN are there");
        SoftBench x = Benches.ofRates(1, 2, 3, 4);
        x.drop();
        x.drop();
        column("READINGS stay when LINES go", x, 0, 1, 2, 3, 4);
        due.is("a shorter RUN", x.run(0), 2);
        due.is("its last", x.at(1, 0), 2);
        for (int what = 0; what <= 3; what++) {
            due.is("none of the longer one, " + what, x.at(2, what), NO);
        }
        due.is("nor to be LOST", x.lose(2), NO);
        Benches.steps(x, 7, 8, 9);
        due.is("READINGS stay when LINES come", x.about(0), 2);
        x.set(1, 1);
        column("READINGS stay when BOUND changes", x, 0, 1, 2);
    }

    private static void loseOnce() {
        due.sentence("A READING is LOST: what it was; NO: it was LOST already, or BAD.");
        due.is("no READINGS", new SoftBench().lose(0), NO);
        new Edges(due, "lose", () -> Benches.ofRates(5, 0, -7), NO).of(0, 0, 2, 0);
        SoftBench x = Benches.ofRates(5, 0, -7);
        int[] was = {5, 0, -7};
        for (int t = 2; t >= 0; t--) {
            due.is("what it was", x.lose(t), was[t]);
            due.is("LOST already", x.lose(t), NO);
            due.is("how many are LOST", x.about(1), 3 - t);
            due.is("it is not there any more", x.at(t, 0), NO);
            due.is("its RATE is", x.at(t, 1), was[t]);
        }
        due.is("READINGS, LOST ones, too", x.about(0), 3);
        x.run(0);
        column("a new RUN", x, 0, 5, 0, -7);
        due.is("has none LOST", x.about(1), 0);
    }

    private static void atPlaces() {
        due.sentence("Of place i: 0 THE READING (NO: LOST), 1 RATE, 2 WARMTH, 3 the LINE. NO: BAD.");
        due.is("no READINGS", new SoftBench().at(0, 1), NO);
        Edges at = new Edges(due, "at", () -> Benches.ofRates(5, 0, -7), NO);
        for (int what = 0; what <= 3; what++) {
            at.of(0, 0, 2, 0, what);
        }
        for (int i = 0; i <= 2; i++) {
            at.of(1, 0, 3, i, 0);
        }
        SoftBench x = Benches.ofRates(5, 0, -7);
        int[] last = {-7, -7, 0, 3};
        for (int what = 0; what <= 3; what++) {
            due.is("the last place, " + what, x.at(2, what), last[what]);
        }
    }

    private static void aboutRun() {
        due.sentence("Of the latest RUN: 0 READINGS (LOST ones, too), 1 those LOST, 2 those CLIPPED, 3 the STUFF (NONE)."
            + " BAD.");
        new Edges(due, "about", () -> Benches.ofRates(5), BAD).of(0, 0, 3, 0);
        new Edges(due, "about", SoftBench::new, BAD).of(0, 0, 3, 0);
        SoftBench x = Benches.plain();
        int[] atFirst = {0, 0, 0, NONE};
        for (int what = 0; what <= 3; what++) {
            due.is("no RUN, " + what, x.about(what), atFirst[what]);
        }
        for (int s = 1; s < 6; s++) {
            x.stuff(0, 1, 0, 1, 0);
        }
        Benches.steps(x, 5, 50, -50);
        x.set(1, 20);
        x.run(5);
        x.lose(0);
        x.lose(1);
        int[] then = {3, 2, 2, 5};
        for (int what = 0; what <= 3; what++) {
            due.is("of a RUN, " + what, x.about(what), then[what]);
        }
        due.is("refused", x.run(6), BAD);
        due.is("the STUFF of the latest RUN still", x.about(3), 5);
        x.set(1, MAX);
        x.set(1, 100);
        x.run(0);
        int[] atLast = {3, 0, 0, 0};
        for (int what = 0; what <= 3; what++) {
            due.is("of another RUN, " + what, x.about(what), atLast[what]);
        }
    }
}
