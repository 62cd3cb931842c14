import java.math.BigInteger;
import java.util.ArrayList;
import java.util.Arrays;
import java.util.List;

/**
 * The document once more, as slowly and plainly as can be, and by other ways than the class goes:
 * ModelTest holds the two against each other.
 */
final class BenchModel {
    private static final int BAD = -1, STATE = -2, FULL = -3, NONE = -9, NO = -2000000000;

    /** One TURN of a RUN; reading is null when it is LOST. */
    private static final class Turn {
        int rate, warmth, line;
        Integer reading;
        boolean clipped;
    }

    private static final class Kept {
        final List<Integer> readings = new ArrayList<>();
        int stuff;
        int keptAt;
        boolean doubt;
    }

    private final List<int[]> stuffs = new ArrayList<>();
    private final List<int[]> lines = new ArrayList<>();
    private List<Turn> turns = new ArrayList<>();
    private final Kept[] curves = new Kept[4];
    private int clock = 0, changedAt = 0, ranAt = -1, passedAt = -1;
    private int lag = 0, bound = 100000, runStuff = NONE, runs = 0, passed = 0, failed = 0;
    private long trace = 0;

    private static boolean in(long v, long lo, long hi) {
        return lo <= v && v <= hi;
    }

    /** Calls by their place in the face. */
    long call(int method, int[] a) {
        clock++;
        switch (method) {
            case 0: return stuff(a);
            case 1: return press(a[0], a[1], a[2]);
            case 2: return line(a);
            case 3: return drop();
            case 4: return program().size();
            case 5: return set(a[0], a[1]);
            case 6: return run(a[0]);
            case 7: return lose(a[0]);
            case 8: return at(a[0], a[1]);
            case 9: return about(a[0]);
            case 10: return steady(a[0], a[1], a[2]);
            case 11: return miss(a[0], a[1], a[2]);
            case 12: return beside(a);
            case 13: return swing(a[0], a[1]);
            case 14: return area(a[0], a[1]);
            case 15: return keep(a[0]);
            case 16: return curve(a[0], a[1]);
            case 17: return spread(a[0], a[1], a[2], a[3]);
            case 18: return shift(a[0], a[1], a[2]);
            case 19: return check(a[0]);
            case 20: return count(a[0]);
            default: return trace;
        }
    }

    private long stuff(int[] a) {
        boolean good = in(a[0], 0, 2) && in(a[1], 0, 50);
        good = good && (a[0] < 1 || in(a[2], 0, 500));
        good = good && (a[0] < 2 || (in(a[3], 1, 100) && in(a[4], 0, a[1])));
        if (!good) return BAD;
        if (stuffs.size() == 6) return FULL;
        stuffs.add(a.clone());
        return stuffs.size() - 1;
    }

    /** Answers THE PRESS, and what its bodies bring to the trace. */
    private static int[] pressOf(int[] s, int kind, int r, int h) {
        if (r < 0) {
            int[] up = pressOf(s, kind, -r, h);
            return new int[] {-up[0], up[1]};
        }
        if (kind == 0) return new int[] {(int) Math.floor((s[1] * r * (50 - h)) / 50.0 + 1e-9), 1};
        if (kind == 1) {
            if (r == 0) return new int[] {0, 10};
            int[] up = pressOf(s, 0, r, h);
            return new int[] {up[0] + s[2], up[1] + 10};
        }
        int[] up = pressOf(s, 1, r, h);
        int p = up[0];
        for (int above = s[3] + 1; above <= r; above++) p -= s[4];
        return new int[] {p < 0 ? 0 : p, up[1] + 100};
    }

    private long press(int s, int r, int h) {
        if (!in(s, 0, stuffs.size() - 1) || !in(r, -200, 200) || !in(h, 0, 40)) return NO;
        int[] p = pressOf(stuffs.get(s), stuffs.get(s)[0], r, h);
        trace += p[1];
        return p[0];
    }

    private long line(int[] a) {
        int kind = a[0];
        boolean good = in(kind, 0, 5);
        if (kind <= 2) good = good && in(a[1], -200, 200);
        if (kind == 1) good = good && in(a[2], -200, 200);
        if (kind <= 3) good = good && in(a[3], 1, 60);
        if (kind == 2) good = good && in(a[4], 1, 9);
        if (kind == 4) good = good && in(a[1], 0, 40);
        if (kind == 5) {
            good = good && in(a[3], 1, 5) && in(a[1], 0, lines.size() - 1);
            for (int l = 0; good && l < lines.size(); l++) if (l >= a[1] && lines.get(l)[0] == 5) good = false;
        }
        if (!good) return BAD;
        if (lines.size() == 10) return FULL;
        lines.add(a.clone());
        changedAt = clock;
        return lines.size() - 1;
    }

    private long drop() {
        if (lines.isEmpty()) return STATE;
        lines.remove(lines.size() - 1);
        changedAt = clock;
        return lines.size();
    }

    private static int toZero(int upper, int lower) {
        int q = Math.abs(upper) / Math.abs(lower);
        return (upper < 0) != (lower < 0) ? -q : q;
    }

    private void doLine(int number, int[] l, int[] warmth, List<Turn> out) {
        int n = l[3];
        List<Integer> rates = new ArrayList<>();
        if (l[0] == 0) for (int i = 0; i < n; i++) rates.add(l[1]);
        if (l[0] == 1) for (int i = 0; i < n; i++) rates.add(n == 1 ? l[1] : l[1] + toZero((l[2] - l[1]) * i, n - 1));
        if (l[0] == 2) {
            for (int round = 0; round < l[4]; round++) {
                for (int j = 0; j <= n; j++) rates.add(toZero(l[1] * j, n));
                for (int j = n + 1; j <= 3 * n; j++) rates.add(toZero(l[1] * (2 * n - j), n));
                for (int j = 3 * n + 1; j < 4 * n; j++) rates.add(toZero(l[1] * (j - 4 * n), n));
            }
        }
        if (l[0] == 3) for (int i = 0; i < n; i++) rates.add(0);
        if (l[0] == 4) warmth[0] = l[1];
        for (int r : rates) {
            Turn t = new Turn();
            t.rate = r;
            t.warmth = warmth[0];
            t.line = number;
            out.add(t);
        }
    }

    private List<Turn> program() {
        List<Turn> out = new ArrayList<>();
        int[] warmth = {20};
        for (int k = 0; k < lines.size(); k++) {
            int[] l = lines.get(k);
            if (l[0] != 5) doLine(k, l, warmth, out);
            else for (int time = 0; time < l[3]; time++)
                for (int b = l[1]; b < k; b++) doLine(b, lines.get(b), warmth, out);
        }
        return out;
    }

    private long set(int what, int v) {
        if (what == 0 && in(v, 0, 9)) { int was = lag; lag = v; return was; }
        if (what == 1 && in(v, 1, 100000)) { int was = bound; bound = v; return was; }
        return BAD;
    }

    private long run(int s) {
        if (!in(s, 0, stuffs.size() - 1)) return BAD;
        List<Turn> all = program();
        if (all.isEmpty() || all.size() > 400) return STATE;
        int q = 0;
        for (Turn t : all) {
            int p = pressOf(stuffs.get(s), stuffs.get(s)[0], t.rate, t.warmth)[0];
            q = toZero(lag * q + (10 - lag) * p, 10);
            if (q > bound) { q = bound; t.clipped = true; }
            if (q < -bound) { q = -bound; t.clipped = true; }
            t.reading = q;
        }
        turns = all;
        runStuff = s;
        ranAt = clock;
        runs++;
        return all.size();
    }

    private boolean place(int i) {
        return in(i, 0, turns.size() - 1);
    }

    private long lose(int i) {
        if (!place(i) || turns.get(i).reading == null) return NO;
        int was = turns.get(i).reading;
        turns.get(i).reading = null;
        return was;
    }

    private long at(int i, int what) {
        if (!place(i) || !in(what, 0, 3)) return NO;
        Turn t = turns.get(i);
        Integer[] all = {t.reading == null ? NO : t.reading, t.rate, t.warmth, t.line};
        return all[what];
    }

    private long about(int what) {
        if (what == 0) return turns.size();
        if (what == 1) return turns.stream().filter(t -> t.reading == null).count();
        if (what == 2) return turns.stream().filter(t -> t.clipped).count();
        return what == 3 ? runStuff : BAD;
    }

    private long steady(int i, int m, int e) {
        if (!place(i) || m < 1 || e < 0) return BAD;
        for (int p = i; p < turns.size(); p++) {
            if ((long) p + m > turns.size()) continue;
            List<Turn> part = turns.subList(p, p + m);
            if (part.stream().anyMatch(t -> t.reading == null)) continue;
            int lo = part.stream().mapToInt(t -> t.reading).min().getAsInt();
            int hi = part.stream().mapToInt(t -> t.reading).max().getAsInt();
            if (hi - lo <= e) return p;
        }
        return NONE;
    }

    private List<Turn> points(int i, int j) {
        if (i > j || !place(i) || !place(j)) return null;
        List<Turn> out = new ArrayList<>();
        for (int t = i; t <= j; t++) if (turns.get(t).reading != null) out.add(turns.get(t));
        return out.isEmpty() || out.size() > 24 ? null : out;
    }

    /** Half the height of the band of slope a by b (b above 0) that holds all points, as upper, lower. */
    private static long[] band(List<Turn> points, long a, long b) {
        long lo = Long.MAX_VALUE, hi = Long.MIN_VALUE;
        for (Turn t : points) {
            long off = t.reading * b - a * t.rate;
            lo = Math.min(lo, off);
            hi = Math.max(hi, off);
        }
        long upper = hi - lo, lower = 2 * b;
        long g = BigInteger.valueOf(upper).gcd(BigInteger.valueOf(lower)).longValue();
        return new long[] {upper / g, lower / g};
    }

    /** The height of the band is convex in its slope and bends only where two points stand in line. */
    private static long[] leastBand(List<Turn> points) {
        long[] best = band(points, 0, 1);
        for (Turn p : points) {
            for (Turn q : points) {
                if (p.rate < q.rate) {
                    long[] other = band(points, q.reading - p.reading, q.rate - p.rate);
                    if (other[0] * best[1] < best[0] * other[1]) best = other;
                }
            }
        }
        return best;
    }

    private long miss(int i, int j, int part) {
        List<Turn> points = points(i, j);
        if (points == null || !in(part, 0, 1)) return NO;
        return leastBand(points)[part];
    }

    private long beside(int[] a) {
        if (!in(a[2], -1000000, 1000000) || !in(a[3], -1000000, 1000000) || !in(a[4], 1, 1000)) return BAD;
        List<Turn> points = points(a[0], a[1]);
        if (points == null) return NONE;
        long[] least = leastBand(points);
        boolean more = false;
        for (Turn t : points) {
            // size of reading - (u + v x) / w against least[0] / least[1]
            BigInteger off = BigInteger.valueOf(t.reading).multiply(BigInteger.valueOf(a[4]))
                .subtract(BigInteger.valueOf(a[2])).subtract(BigInteger.valueOf(a[3]).multiply(BigInteger.valueOf(t.rate)));
            if (off.abs().multiply(BigInteger.valueOf(least[1]))
                .compareTo(BigInteger.valueOf(least[0]).multiply(BigInteger.valueOf(a[4]))) > 0) more = true;
        }
        return more ? 1 : 0;
    }

    private long swing(int number, int what) {
        if (!in(number, 0, lines.size() - 1) || !in(what, 0, 2)) return NO;
        if (ranAt < changedAt || turns.isEmpty() || lines.get(number)[0] != 2) return NO;
        int n = lines.get(number)[3];
        int first = 0;
        while (turns.get(first).line != number) first++;
        long[] sums = new long[3];
        for (int round = 0; round < lines.get(number)[4]; round++) {
            List<Turn> part = turns.subList(first + round * 4 * n, first + (round + 1) * 4 * n);
            if (part.stream().anyMatch(t -> t.reading == null)) continue;
            sums[0]++;
            for (int j = 0; j < 4 * n; j++) {
                sums[1] += (long) part.get(j).reading * part.get(j).rate;
                sums[2] += (long) part.get(j).reading * part.get(j >= n ? j - n : j + 3 * n).rate;
            }
        }
        return sums[what];
    }

    private long area(int i, int j) {
        if (i > j || !place(i) || !place(j)) return NO;
        for (int t = i; t <= j; t++) if (turns.get(t).reading == null) return NO;
        long sum = 0;
        for (int t = i; t <= j - 1; t++) {
            sum += (long) (turns.get(t + 1).rate - turns.get(t).rate) * turns.get(t).reading;
            sum += (long) (turns.get(t + 1).rate - turns.get(t).rate) * turns.get(t + 1).reading;
        }
        return sum;
    }

    private long keep(int c) {
        if (!in(c, 0, 3)) return BAD;
        if (turns.isEmpty()) return STATE;
        curves[c] = new Kept();
        for (Turn t : turns) curves[c].readings.add(t.reading);
        curves[c].stuff = runStuff;
        curves[c].keptAt = clock;
        return turns.size();
    }

    private long curve(int c, int what) {
        if (!in(c, 0, 3) || !in(what, 0, 2)) return BAD;
        if (curves[c] == null) return what == 1 ? 0 : NONE;
        return what == 0 ? curves[c].readings.size() : what == 1 ? (curves[c].doubt ? 1 : 0) : curves[c].stuff;
    }

    /** SPREAD (NONE where nothing meets) and OVERLAP. */
    private static int[] laid(Kept one, Kept other, long d) {
        int[] out = {NONE, 0};
        for (int t = 0; t < one.readings.size(); t++) {
            if (!in(t + d, 0, other.readings.size() - 1)) continue;
            Integer a = one.readings.get(t), b = other.readings.get((int) (t + d));
            if (a == null || b == null) continue;
            out[0] = Math.max(out[0], Math.abs(a - b));
            out[1]++;
        }
        return out;
    }

    private boolean kept(int c) {
        return in(c, 0, 3) && curves[c] != null;
    }

    private long spread(int c, int o, int d, int what) {
        if (!kept(c) || !kept(o) || !in(what, 0, 1)) return BAD;
        return laid(curves[c], curves[o], d)[what];
    }

    private long shift(int c, int o, int n) {
        if (!kept(c) || !kept(o) || !in(n, 0, 400)) return NO;
        int lesser = Math.min(curves[c].readings.size(), curves[o].readings.size());
        List<int[]> found = new ArrayList<>();
        for (int d = -n; d <= n; d++) {
            int[] l = laid(curves[c], curves[o], d);
            if (l[1] >= lesser / 2.0) found.add(new int[] {l[0], Math.abs(d), d});
        }
        found.sort((p, q) -> Arrays.compare(p, q));
        return found.isEmpty() ? NO : found.get(0)[2];
    }

    private long check(int e) {
        if (e < 0) return BAD;
        if (turns.isEmpty() || stuffs.get(runStuff)[0] != 0) return STATE;
        Turn last = turns.get(turns.size() - 1);
        if (last.reading == null) return STATE;
        int due = pressOf(stuffs.get(runStuff), 0, last.rate, last.warmth)[0];
        if ((long) due - e <= last.reading && last.reading <= (long) due + e) {
            passedAt = clock;
            passed++;
            return 1;
        }
        for (Kept k : curves) if (k != null && k.keptAt > passedAt) k.doubt = true;
        failed++;
        return 0;
    }

    private long count(int what) {
        long doubts = Arrays.stream(curves).filter(k -> k != null && k.doubt).count();
        long[] all = {stuffs.size(), lines.size(), doubts, passed, failed, runs};
        return in(what, 0, 5) ? all[what] : BAD;
    }

    /** A place that is likely to be one: used to make calls that are worth while. */
    int size() {
        return turns.size();
    }

    int lineCount() {
        return lines.size();
    }

    int turnCount() {
        return program().size();
    }
}
