import java.util.function.Supplier;

/** Tells a call with one of its numbers at the edges, each time on a bench made anew. */
final class Edges {
    private final Due due;
    private final String name;
    private final Supplier<SoftBench> bench;
    private final long refused;

    Edges(Due due, String name, Supplier<SoftBench> bench, long refused) {
        this.due = due;
        this.name = name;
        this.bench = bench;
        this.refused = refused;
    }

    /** The number at this place of the call is told from least to most, and refused on either side. */
    void of(int which, int least, int most, int... args) {
        told(args, which, least);
        told(args, which, most);
        if (least > Integer.MIN_VALUE) {
            refused(args, which, least - 1);
            refused(args, which, Integer.MIN_VALUE);
        }
        if (most < Integer.MAX_VALUE) {
            refused(args, which, most + 1);
            refused(args, which, Integer.MAX_VALUE);
        }
    }

    /** The number at this place of the call is not looked at. */
    void notLookedAt(int which, int... args) {
        for (int v : new int[] {Integer.MIN_VALUE, -1, 0, 1, Integer.MAX_VALUE}) {
            told(args, which, v);
        }
    }

    private void told(int[] args, int which, int v) {
        int[] a = with(args, which, v);
        due.holds(Calls.told(name, a) + " is told", Calls.ask(bench.get(), name, a) != refused);
    }

    private void refused(int[] args, int which, int v) {
        int[] a = with(args, which, v);
        due.is(Calls.told(name, a), Calls.ask(bench.get(), name, a), refused);
    }

    private static int[] with(int[] args, int which, int v) {
        int[] a = args.clone();
        a[which] = v;
        return a;
    }
}
