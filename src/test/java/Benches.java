/** Benches to begin a test with. */
final class Benches {
    private Benches() { }

    /** STUFF 0 is THIN, without any LINE. */
    static SoftBench thin(int slope) {
        SoftBench x = new SoftBench();
        x.stuff(0, slope, 0, 1, 0);
        return x;
    }

    /** STUFF 0 has slope 1 and LINE 0 is WARM 0: READINGS are RATES while LAG is 0. */
    static SoftBench plain() {
        SoftBench x = thin(1);
        warm(x, 0);
        return x;
    }

    /** A plain bench after a RUN with a TURN at each of these RATES (9 at most). */
    static SoftBench ofRates(int... rates) {
        SoftBench x = plain();
        steps(x, rates);
        x.run(0);
        return x;
    }

    /** Keeps, of a plain bench, READINGS that are these (9 at most). */
    static void keepReadings(SoftBench x, int curve, int... readings) {
        clear(x);
        warm(x, 0);
        steps(x, readings);
        x.run(0);
        x.keep(curve);
    }

    static void clear(SoftBench x) {
        while (x.drop() > 0) { }
    }

    static void steps(SoftBench x, int... rates) {
        for (int r : rates) {
            step(x, r, 1);
        }
    }

    static int step(SoftBench x, int r, int n) {
        return x.line(0, r, 0, n, 0);
    }

    static int ramp(SoftBench x, int a, int b, int n) {
        return x.line(1, a, b, n, 0);
    }

    static int swing(SoftBench x, int r, int n, int m) {
        return x.line(2, r, 0, n, m);
    }

    static int rest(SoftBench x, int n) {
        return x.line(3, 0, 0, n, 0);
    }

    static int warm(SoftBench x, int h) {
        return x.line(4, h, 0, 0, 0);
    }

    static int again(SoftBench x, int l, int n) {
        return x.line(5, l, 0, n, 0);
    }

    /** LINES of so many TURNS, all at rest (420 at most). */
    static void restTurns(SoftBench x, int turns) {
        for (int left = turns; left > 0; left -= 60) {
            rest(x, Math.min(60, left));
        }
    }
}
