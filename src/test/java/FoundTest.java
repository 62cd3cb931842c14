import java.util.Arrays;

/** Promises 12 (steady), 13 (miss), 14 (beside), 15 (swing), 16 (area). */
public final class FoundTest {
    private static final int NO = SoftBench.NO;
    private static final int MIN = Integer.MIN_VALUE;
    private static final int MAX = Integer.MAX_VALUE;
    private static final Due due = new Due();

    public static void main(String[] args) {
        steady();
        steadyLost();
        miss();
        missOfOneRate();
        missInAnyOrder();
        missPoints();
        beside();
        swing();
        swingFirstTime();
        swingAhead();
        swingRefused();
        area();
        due.end();
    }

    /** A bench whose READINGS are the RATES while LAG is 0: slope 1 at warmth 0, by LINE 0. */
    private static SoftBench plain() {
        SoftBench x = new SoftBench();
        x.stuff(0, 1, 0, 1, 0);
        x.line(4, 0, 0, 0, 0);
        return x;
    }

    private static void steady() {
        SoftBench x = plain();
        x.line(1, 10, 4, 3, 0);
        x.line(0, 5, 0, 3, 0);
        x.run(0);
        // 10 7 4 5 5 5
        due.is("three within 1", x.steady(0, 3, 1), 2);
        due.is("four within 1", x.steady(0, 4, 1), 2);
        due.is("five within 1", x.steady(0, 5, 1), SoftBench.NONE);
        due.is("five within 3", x.steady(0, 5, 3), 1);
        due.is("two alike", x.steady(0, 2, 0), 3);
        due.is("two alike, from 4 on", x.steady(4, 2, 0), 4);
        due.is("two alike, from 5 on", x.steady(5, 2, 0), SoftBench.NONE);
        due.is("one", x.steady(5, 1, 0), 5);
        due.is("all", x.steady(0, 6, 6), 0);
        due.is("all, less one", x.steady(0, 6, 5), SoftBench.NONE);
        due.is("more than all", x.steady(0, 7, MAX), SoftBench.NONE);
        due.is("far more than all", x.steady(5, MAX, MAX), SoftBench.NONE);
        int[][] bad = {{-1, 1, 0}, {6, 1, 0}, {0, 0, 0}, {0, -1, 0}, {0, 1, -1}, {MAX, 1, 0}, {MIN, MIN, MIN}};
        for (int[] s : bad) {
            due.is("steady" + Arrays.toString(s), x.steady(s[0], s[1], s[2]), SoftBench.BAD);
        }
    }

    private static void steadyLost() {
        SoftBench x = plain();
        x.line(0, 5, 0, 6, 0);
        x.run(0);
        x.lose(2);
        due.is("two there", x.steady(0, 2, 0), 0);
        due.is("two there, from 1 on", x.steady(1, 2, 0), 3);
        due.is("three there", x.steady(0, 3, 0), 3);
        due.is("one, from a LOST one on", x.steady(2, 1, 0), 3);
        due.is("four there", x.steady(0, 4, 9), SoftBench.NONE);
    }

    private static void expectMiss(String name, SoftBench x, int i, int j, long upper, long lower) {
        due.is(name + ": upper", x.miss(i, j, 0), upper);
        due.is(name + ": lower", x.miss(i, j, 1), lower);
    }

    private static void miss() {
        SoftBench x = new SoftBench();
        x.stuff(1, 1, 10, 1, 0);
        x.line(4, 0, 0, 0, 0);
        x.line(1, -2, 2, 5, 0);
        x.run(0);
        // (-2, -12) (-1, -11) (0, 0) (1, 11) (2, 12)
        expectMiss("one POINT", x, 3, 3, 0, 1);
        expectMiss("two POINTS", x, 3, 4, 0, 1);
        // (0, 0) (1, 11) (2, 12): the POINT at 1 is 5 above, half of it
        expectMiss("three POINTS", x, 2, 4, 5, 2);
        expectMiss("on a line", x, 1, 3, 0, 1);
        // (-1, -11) to (2, 12): the POINT at 1 is 11 - (-11 + 2 * 23 / 3) = 20 / 3 above, half of it
        expectMiss("four POINTS", x, 1, 4, 10, 3);
        expectMiss("five POINTS", x, 0, 4, 10, 3);
        x.lose(2);
        // without (0, 0) the POINT at 1 stands off the line from -1 to 2 as before
        expectMiss("without the midst", x, 0, 4, 10, 3);
        x.lose(1);
        // (-2, -12) (1, 11) (2, 12): chord at 1 is 6, off by 5, half of it
        expectMiss("three that are left", x, 0, 4, 5, 2);
        int[][] bad = {{1, 0, 0}, {-1, 3, 0}, {0, 5, 0}, {0, 4, 2}, {0, 4, -1}, {MAX, MAX, 0}, {MIN, MAX, 0}};
        for (int[] m : bad) {
            due.is("miss" + Arrays.toString(m), x.miss(m[0], m[1], m[2]), NO);
        }
    }

    private static void missOfOneRate() {
        SoftBench x = plain();
        x.line(0, 7, 0, 3, 0);
        x.set(0, 5);
        x.run(0);
        // 3 5 6 at one RATE: nothing but the middle of 3 and 6
        expectMiss("one RATE", x, 0, 2, 3, 2);
        expectMiss("one RATE, two POINTS", x, 0, 1, 1, 1);
        due.is("as THE MISS, by 9 by 2", x.beside(0, 2, 9, 0, 2), 0);
        due.is("more than THE MISS", x.beside(0, 2, 4, 0, 1), 1);
    }

    private static void missInAnyOrder() {
        SoftBench x = new SoftBench();
        x.stuff(1, 1, 10, 1, 0);
        x.line(4, 0, 0, 0, 0);
        x.line(0, 1, 0, 1, 0);
        x.line(3, 0, 0, 1, 0);
        x.line(0, 3, 0, 1, 0);
        x.line(0, -1, 0, 1, 0);
        x.line(0, -3, 0, 1, 0);
        x.run(0);
        // (1, 11) (0, 0) (3, 13) (-1, -11) (-3, -13)
        expectMiss("the one between comes first", x, 0, 2, 10, 3);
        expectMiss("the one between is below", x, 1, 4, 10, 3);
        // slope 6 holds (1, 11) and (3, 13) 5 off on both sides, and (-1, -11), (-3, -13) so, too
        expectMiss("all of them", x, 0, 4, 5, 1);
        due.is("6 x", x.beside(0, 4, 0, 6, 1), 0);
        due.is("13 x by 2", x.beside(0, 4, 0, 13, 2), 1);
    }

    private static void missPoints() {
        SoftBench x = plain();
        x.line(0, 7, 0, 26, 0);
        x.run(0);
        due.is("24 POINTS", x.miss(0, 23, 1), 1);
        due.is("25 POINTS", x.miss(0, 24, 1), NO);
        due.is("beside 25 POINTS", x.beside(0, 24, 7, 0, 1), SoftBench.NONE);
        x.lose(3);
        due.is("24 POINTS of 25", x.miss(0, 24, 1), 1);
        due.is("25 POINTS of 26", x.miss(0, 25, 1), NO);
        due.is("no POINT", x.miss(3, 3, 0), NO);
        due.is("beside no POINT", x.beside(3, 3, 0, 0, 1), SoftBench.NONE);
        due.is("one POINT", x.miss(3, 4, 0), 0);
    }

    private static void beside() {
        SoftBench x = new SoftBench();
        x.stuff(1, 1, 10, 1, 0);
        x.line(4, 0, 0, 0, 0);
        x.line(1, -2, 2, 5, 0);
        x.run(0);
        // POINTS (-1, -11) (0, 0) (1, 11) (2, 12): the best line is 23 x by 3
        due.is("the best line", x.beside(1, 4, 0, 23, 3), 0);
        due.is("the same by 300", x.beside(1, 4, 0, 2300, 300), 0);
        due.is("a bit off", x.beside(1, 4, 1, 2300, 300), 1);
        due.is("a bit steeper", x.beside(1, 4, 0, 2301, 300), 1);
        due.is("off", x.beside(1, 4, 0, 8, 1), 1);
        due.is("any line through one POINT", x.beside(4, 4, -8, 10, 1), 0);
        due.is("a line beside one POINT", x.beside(4, 4, -7, 10, 1), 1);
        due.is("BAD ahead of NONE", x.beside(4, 3, 0, 0, 0), SoftBench.BAD);
        int[][] bad = {{0, 4, 1000001, 0, 1}, {0, 4, -1000001, 0, 1}, {0, 4, 0, 1000001, 1}, {0, 4, 0, -1000001, 1},
            {0, 4, 0, 0, 0}, {0, 4, 0, 0, 1001}, {0, 4, 0, 0, -1}, {0, 4, MIN, 0, 1}, {0, 4, 0, MAX, 1}};
        for (int[] b : bad) {
            due.is("beside" + Arrays.toString(b), x.beside(b[0], b[1], b[2], b[3], b[4]), SoftBench.BAD);
        }
        int[][] none = {{4, 3, 0, 0, 1}, {-1, 3, 0, 0, 1}, {0, 5, 0, 0, 1}, {MAX, MIN, 0, 0, 1}};
        for (int[] b : none) {
            due.is("beside" + Arrays.toString(b), x.beside(b[0], b[1], b[2], b[3], b[4]), SoftBench.NONE);
        }
        due.is("edges are fine", x.beside(0, 4, 1000000, -1000000, 1000), 1);
        due.is("edges are fine", x.beside(0, 4, -1000000, 1000000, 1), 1);
    }

    private static void expectSwing(String name, SoftBench x, int line, long rounds, long in, long across) {
        due.is(name + ": ROUNDS", x.swing(line, 0), rounds);
        due.is(name + ": IN", x.swing(line, 1), in);
        due.is(name + ": ACROSS", x.swing(line, 2), across);
    }

    private static void swing() {
        SoftBench x = plain();
        x.line(0, 9, 0, 1, 0);
        x.line(2, 10, 0, 1, 3);
        x.set(0, 5);
        x.run(0);
        // 4, then RATES 0 10 0 -10: 2 6 3 -3, -1 4 2 -4, -2 4 2 -4
        // IN 60 + 30, 40 + 40, 40 + 40; ACROSS (RATES of one before: -10 0 10 0) -20 + 30, 10 + 20, 20 + 20
        expectSwing("three ROUNDS", x, 2, 3, 250, 80);
        x.lose(0);
        expectSwing("a LOST one ahead of it", x, 2, 3, 250, 80);
        x.lose(8);
        expectSwing("the second ROUND is LOST", x, 2, 2, 170, 50);
        x.lose(7);
        expectSwing("LOST in two places", x, 2, 2, 170, 50);
        x.lose(1);
        expectSwing("the first, too", x, 2, 1, 80, 40);
        x.lose(12);
        expectSwing("none is left", x, 2, 0, 0, 0);
    }

    private static void swingFirstTime() {
        SoftBench x = plain();
        x.line(0, 1, 0, 2, 0);
        x.line(2, 10, 0, 1, 1);
        x.line(5, 1, 0, 2, 0);
        x.line(2, 20, 0, 1, 1);
        due.is("run", x.run(0), 22);
        expectSwing("once", x, 2, 1, 200, 0);
        expectSwing("behind AGAIN", x, 4, 1, 800, 0);
        x.lose(8);
        expectSwing("its second time does not matter", x, 2, 1, 200, 0);
        x.lose(3);
        expectSwing("its first time does", x, 2, 0, 0, 0);
        expectSwing("the other is as it was", x, 4, 1, 800, 0);
    }

    private static void swingAhead() {
        SoftBench x = new SoftBench();
        x.stuff(0, 50, 0, 1, 0);
        x.line(2, 10, 0, 1, 1);
        x.run(0);
        expectSwing("LINE 0", x, 0, 1, 2 * 3000, 0);
        x.line(3, 0, 0, 1, 0);
        x.run(0);
        x.drop();
        due.is("a LINE behind it is gone", x.swing(0, 0), NO);
        due.is("it is gone itself", x.swing(1, 0), NO);
    }

    private static void swingRefused() {
        SoftBench x = plain();
        x.line(2, 10, 0, 1, 1);
        due.is("ahead of a RUN", x.swing(1, 0), NO);
        x.run(0);
        due.is("there", x.swing(1, 0), 1);
        due.is("no SWING", x.swing(0, 0), NO);
        due.is("no LINE", x.swing(2, 0), NO);
        due.is("no LINE", x.swing(-1, 0), NO);
        due.is("no LINE", x.swing(MAX, 0), NO);
        due.is("what -1", x.swing(1, -1), NO);
        due.is("what 3", x.swing(1, 3), NO);
        x.line(0, 999, 0, 1, 0);
        x.run(7);
        due.is("refused calls change nothing", x.swing(1, 0), 1);
        x.set(0, 3);
        due.is("nor does set", x.swing(1, 0), 1);
        x.line(3, 0, 0, 1, 0);
        due.is("LINES changed", x.swing(1, 0), NO);
        x.drop();
        due.is("LINES changed, and back", x.swing(1, 0), NO);
        x.run(0);
        due.is("there by a new RUN", x.swing(1, 0), 1);
        x.drop();
        due.is("the LINE is gone", x.swing(1, 0), NO);
        x.line(2, 10, 0, 1, 1);
        due.is("another stands in its place", x.swing(1, 0), NO);
    }

    private static void area() {
        SoftBench x = plain();
        x.line(2, 10, 0, 1, 1);
        x.line(3, 0, 0, 1, 0);
        x.set(0, 5);
        x.run(0);
        // RATES 0 10 0 -10 0, READINGS 0 5 2 -4 -2
        due.is("area(0, 4)", x.area(0, 4), 10 * 5 - 10 * 7 - 10 * -2 + 10 * -6);
        due.is("area(0, 3)", x.area(0, 3), 10 * 5 - 10 * 7 - 10 * -2);
        due.is("area(1, 3)", x.area(1, 3), -10 * 7 - 10 * -2);
        due.is("area(0, 1)", x.area(0, 1), 50);
        due.is("area(1, 2)", x.area(1, 2), -70);
        due.is("area(3, 4)", x.area(3, 4), -60);
        due.is("area(2, 2)", x.area(2, 2), 0);
        int[][] bad = {{1, 0}, {-1, 2}, {0, 5}, {5, 5}, {MIN, MAX}, {MAX, MAX}, {3, MIN}};
        for (int[] a : bad) {
            due.is("area" + Arrays.toString(a), x.area(a[0], a[1]), NO);
        }
        x.lose(2);
        due.is("LOST in the midst", x.area(0, 4), NO);
        due.is("LOST at the end", x.area(0, 2), NO);
        due.is("LOST at the beginning", x.area(2, 4), NO);
        due.is("LOST alone", x.area(2, 2), NO);
        due.is("beside it", x.area(0, 1), 50);
        due.is("behind it", x.area(3, 4), -60);
    }
}
