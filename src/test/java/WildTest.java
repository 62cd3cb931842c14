import java.util.Random;

/** No call throws or hangs, whatever it is given and in whatever state. */
public final class WildTest {
    private static final int[] EDGES = {Integer.MIN_VALUE, Integer.MIN_VALUE + 1, -2000000000, -1000000, -401, -400, -200,
        -2, -1, 0, 1, 2, 3, 4, 5, 6, 9, 10, 20, 40, 60, 100, 200, 399, 400, 401, 1000, 100000, 1000000,
        2000000000, Integer.MAX_VALUE - 1, Integer.MAX_VALUE};
    private static final Due due = new Due();

    public static void main(String[] args) {
        for (int seed = 0; seed < 300; seed++) {
            wildRun(new Random(seed), seed);
        }
        dearCalls();
        due.end();
    }

    private static void wildRun(Random random, int seed) {
        SoftBench x = new SoftBench();
        boolean ended = true;
        try {
            // beyond its 512th call answers are free, but nothing may throw there either
            for (int c = 0; c < 700; c++) {
                wildCall(x, random);
            }
        } catch (RuntimeException e) {
            ended = false;
            e.printStackTrace(System.out);
        }
        due.holds("wild run " + seed + " ended without an exception", ended);
    }

    private static int v(Random random) {
        return random.nextInt(3) > 0 ? random.nextInt(12) - 1 : EDGES[random.nextInt(EDGES.length)];
    }

    private static void wildCall(SoftBench x, Random random) {
        int[] a = {v(random), v(random), v(random), v(random), v(random)};
        Calls.ask(x, random.nextInt(Calls.NAMES.size()), a);
    }

    /** The greatest numbers that can come: sums must not wrap round. */
    private static void dearCalls() {
        SoftBench x = new SoftBench();
        x.stuff(1, 50, 500, 1, 0);
        x.line(4, 0, 0, 0, 0);
        x.line(2, 200, 0, 11, 9);
        due.is("396 TURNS", x.run(0), 396);
        long in = 0;
        long across = 0;
        for (int t = 0; t < 396; t++) {
            int back = t % 44 >= 11 ? t - 11 : t + 33;
            in += (long) x.at(t, 0) * x.at(t, 1);
            across += (long) x.at(t, 0) * x.at(back, 1);
        }
        due.is("IN", x.swing(1, 1), in);
        due.is("ACROSS", x.swing(1, 2), across);
        x.keep(0);
        x.keep(1);
        for (int k = 0; k < 400; k++) {
            due.is("shift", x.shift(0, 1, 400), 0);
        }
    }
}
