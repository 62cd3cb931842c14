/** Promises 1 (a new object), 2 (stuff), 3 (press), 23 (trace). */
public final class StuffTest {
    private static final int NO = SoftBench.NO;
    private static final Due due = new Due();

    public static void main(String[] args) {
        newObject();
        stuffEdges();
        stuffNumbersNotLookedAt();
        stuffFull();
        pressThin();
        pressYield();
        pressBent();
        pressRefused();
        trace();
        due.end();
    }

    private static void newObject() {
        SoftBench x = new SoftBench();
        for (int what = 0; what <= 5; what++) {
            due.is("new: count(" + what + ")", x.count(what), 0);
        }
        due.is("new: turns()", x.turns(), 0);
        due.is("new: drop()", x.drop(), SoftBench.STATE);
        for (int what = 0; what <= 2; what++) {
            due.is("new: about(" + what + ")", x.about(what), 0);
        }
        due.is("new: about(3)", x.about(3), SoftBench.NONE);
        for (int c = 0; c <= 3; c++) {
            due.is("new: curve(" + c + ", 0)", x.curve(c, 0), SoftBench.NONE);
            due.is("new: curve(" + c + ", 1)", x.curve(c, 1), 0);
            due.is("new: curve(" + c + ", 2)", x.curve(c, 2), SoftBench.NONE);
        }
        due.is("new: at(0, 0)", x.at(0, 0), NO);
        due.is("new: lose(0)", x.lose(0), NO);
        due.is("new: steady(0, 1, 0)", x.steady(0, 1, 0), SoftBench.BAD);
        due.is("new: miss(0, 0, 0)", x.miss(0, 0, 0), NO);
        due.is("new: beside(0, 0, 0, 0, 1)", x.beside(0, 0, 0, 0, 1), SoftBench.NONE);
        due.is("new: swing(0, 0)", x.swing(0, 0), NO);
        due.is("new: area(0, 0)", x.area(0, 0), NO);
        due.is("new: keep(0)", x.keep(0), SoftBench.STATE);
        due.is("new: check(0)", x.check(0), SoftBench.STATE);
        due.is("new: press(0, 0, 0)", x.press(0, 0, 0), NO);
        due.is("new: trace()", x.trace(), 0);
        due.is("new: LAG was", x.set(0, 0), 0);
        due.is("new: BOUND was", x.set(1, 1), 100000);
    }

    private static void stuffEdges() {
        int[][] bad = {
            {-1, 5, 5, 5, 5}, {3, 5, 5, 5, 5}, {Integer.MAX_VALUE, 5, 5, 5, 5},
            {0, -1, 0, 1, 0}, {0, 51, 0, 1, 0},
            {1, -1, 0, 1, 0}, {1, 51, 0, 1, 0}, {1, 5, -1, 1, 0}, {1, 5, 501, 1, 0},
            {2, -1, 0, 1, -1}, {2, 51, 0, 1, 0}, {2, 5, -1, 1, 0}, {2, 5, 501, 1, 0},
            {2, 5, 0, 0, 0}, {2, 5, 0, 101, 0}, {2, 5, 0, 1, -1}, {2, 5, 0, 1, 6},
        };
        SoftBench x = new SoftBench();
        for (int[] s : bad) {
            due.is("stuff" + java.util.Arrays.toString(s), x.stuff(s[0], s[1], s[2], s[3], s[4]), SoftBench.BAD);
        }
        due.is("no STUFF after BAD ones", x.count(0), 0);
        int[][] good = {{0, 0, 0, 1, 0}, {0, 50, 0, 1, 0}, {1, 0, 0, 1, 0}, {1, 50, 500, 1, 0},
            {2, 0, 0, 1, 0}, {2, 50, 500, 100, 50}};
        for (int k = 0; k < good.length; k++) {
            int[] s = good[k];
            due.is("stuff" + java.util.Arrays.toString(s), x.stuff(s[0], s[1], s[2], s[3], s[4]), k);
        }
    }

    private static void stuffNumbersNotLookedAt() {
        SoftBench x = new SoftBench();
        due.is("THIN looks at its slope alone", x.stuff(0, 3, -1, 0, 99), 0);
        due.is("THIN looks at its slope alone", x.stuff(0, 3, 501, 101, -1), 1);
        due.is("YIELD looks at slope and yield", x.stuff(1, 3, 7, 0, 99), 2);
        due.is("THIN presses by its slope", x.press(0, 10, 0), 30);
        due.is("YIELD presses by slope and yield", x.press(2, 10, 0), 37);
    }

    private static void stuffFull() {
        SoftBench x = new SoftBench();
        for (int k = 0; k < 6; k++) {
            due.is("stuff " + k, x.stuff(0, k, 0, 1, 0), k);
        }
        due.is("a 7th stuff", x.stuff(0, 1, 0, 1, 0), SoftBench.FULL);
        due.is("BAD comes ahead of FULL", x.stuff(0, 51, 0, 1, 0), SoftBench.BAD);
        due.is("six are there", x.count(0), 6);
        due.is("the last is as it was", x.press(5, 1, 0), 5);
        due.is("there is no 7th", x.press(6, 1, 0), NO);
        due.is("nor an 8th", x.press(7, 1, 0), NO);
    }

    private static void pressThin() {
        SoftBench x = new SoftBench();
        x.stuff(0, 7, 0, 1, 0);
        x.stuff(0, 50, 0, 1, 0);
        due.is("7 * 3 * 49 / 50, down", x.press(0, 3, 1), 20);
        due.is("the same below 0", x.press(0, -3, 1), -20);
        due.is("at 0", x.press(0, 0, 1), 0);
        due.is("all at most", x.press(1, 200, 0), 10000);
        due.is("all at least", x.press(1, -200, 0), -10000);
        due.is("warm", x.press(1, 200, 40), 2000);
    }

    private static void pressYield() {
        SoftBench x = new SoftBench();
        x.stuff(1, 7, 500, 1, 0);
        due.is("yield at 0", x.press(0, 0, 0), 0);
        due.is("yield at 1", x.press(0, 1, 0), 507);
        due.is("yield at -1", x.press(0, -1, 0), -507);
        due.is("yield at 3, warmth 1", x.press(0, 3, 1), 520);
    }

    private static void pressBent() {
        SoftBench x = new SoftBench();
        x.stuff(2, 10, 20, 30, 7);
        x.stuff(2, 50, 0, 1, 50);
        due.is("bent at 0", x.press(0, 0, 0), 0);
        due.is("bent at its knee", x.press(0, 30, 0), 320);
        due.is("bent one above", x.press(0, 31, 0), 323);
        due.is("bent below 0", x.press(0, -31, 0), -323);
        due.is("bent is 0 at least", x.press(1, 100, 40), 0);
        due.is("bent below 0 is 0 at least", x.press(1, -100, 40), 0);
        due.is("bent, just above 0", x.press(1, 1, 40), 10);
    }

    private static void pressRefused() {
        SoftBench x = new SoftBench();
        x.stuff(0, 1, 0, 1, 0);
        int[][] bad = {{-1, 0, 0}, {1, 0, 0}, {6, 0, 0}, {0, 201, 0}, {0, -201, 0}, {0, 0, -1}, {0, 0, 41},
            {0, Integer.MIN_VALUE, 0}, {Integer.MAX_VALUE, 0, 0}};
        for (int[] p : bad) {
            due.is("press" + java.util.Arrays.toString(p), x.press(p[0], p[1], p[2]), NO);
        }
        due.is("refused ones leave no trace", x.trace(), 0);
        due.is("edges are fine", x.press(0, 200, 40), 40);
        due.is("edges are fine", x.press(0, -200, 0), -200);
    }

    private static void trace() {
        SoftBench x = new SoftBench();
        x.stuff(0, 1, 0, 1, 0);
        x.stuff(1, 1, 1, 1, 0);
        x.stuff(2, 1, 1, 1, 1);
        int[][] asked = {{0, 0, 1}, {0, 5, 1}, {0, -5, 1}, {1, 0, 10}, {1, 5, 11}, {1, -5, 11},
            {2, 0, 110}, {2, 5, 111}, {2, -5, 111}};
        long sum = 0;
        for (int[] a : asked) {
            x.press(a[0], a[1], 0);
            sum += a[2];
            due.is("trace after press" + java.util.Arrays.toString(a), x.trace(), sum);
        }
        x.line(0, 5, 0, 5, 0);
        x.run(0);
        x.check(0);
        due.is("only press() comes to the trace", x.trace(), sum);
    }
}
