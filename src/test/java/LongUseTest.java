/** All promises hold up to the 512th call of an object. */
public final class LongUseTest {
    private static final Due due = new Due();

    public static void main(String[] args) {
        due.sentence("An object is used for at most 512 calls after it has been made");
        manyPresses();
        manyRuns();
        manyChecks();
        manyLines();
        manyRefused();
        manyLost();
        due.end();
    }

    private static void manyPresses() {
        SoftBench x = new SoftBench();
        x.stuff(2, 50, 500, 1, 50);
        for (int k = 0; k < 510; k++) {
            due.is("press " + k, x.press(0, -200, 0), -(10500 - 199 * 50));
        }
        due.is("trace as the 512th call", x.trace(), 510 * 111);
    }

    private static void manyRuns() {
        SoftBench x = Benches.thin(1);
        Benches.swing(x, 200, 50, 2);
        for (int k = 0; k < 509; k++) {
            due.is("run " + k, x.run(0), 400);
        }
        due.is("count as the 512th call", x.count(5), 509);
    }

    private static void manyChecks() {
        SoftBench x = Benches.ofRates(5);
        for (int k = 0; k < 506; k++) {
            due.is("check " + k, x.check(k), 1);
        }
        due.is("count as the 511th call", x.count(4), 0);
        due.is("count as the 512th call", x.count(3), 506);
    }

    private static void manyLines() {
        SoftBench x = new SoftBench();
        for (int k = 0; k < 255; k++) {
            due.is("line " + k, Benches.rest(x, 1 + k % 60), 0);
            due.is("drop " + k, x.drop(), 0);
        }
        due.is("line as the 511th call", Benches.rest(x, 60), 0);
        due.is("turns as the 512th call", x.turns(), 60);
    }

    private static void manyRefused() {
        SoftBench x = new SoftBench();
        for (int k = 0; k < 508; k++) {
            due.is("stuff " + k, x.stuff(0, 51 + k, 0, 1, 0), SoftBench.BAD);
        }
        due.is("stuff as the 509th call", x.stuff(0, 50, 0, 1, 0), 0);
        due.is("line as the 510th call", Benches.rest(x, 1), 0);
        due.is("run as the 511th call", x.run(0), 1);
        due.is("check as the 512th call", x.check(0), 1);
    }

    private static void manyLost() {
        SoftBench x = Benches.plain();
        for (int l = 0; l < 8; l++) {
            Benches.step(x, 5, 50);
        }
        x.run(0);
        x.keep(0);
        for (int t = 0; t < 400; t++) {
            due.is("lose " + t, x.lose(t), 5);
        }
        due.is("all are LOST", x.about(1), 400);
        due.is("none is STEADY", x.steady(0, 1, 0), SoftBench.NONE);
        due.is("keep", x.keep(1), 400);
        due.is("nothing to be LAID", x.spread(0, 1, 0, 0), SoftBench.NONE);
        due.is("what was KEPT before", x.spread(0, 0, 0, 1), 400);
        for (int t = 0; t < 90; t++) {
            due.is("LOST already " + t, x.lose(t), SoftBench.NO);
        }
        due.is("no more than all are LOST", x.about(1), 400);
    }
}
