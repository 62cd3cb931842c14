import java.util.Arrays;
import java.util.List;
import java.util.Random;

/** All promises: long runs of calls, each answer held against the slow model's. */
public final class ModelTest {
    private static final List<String> NAMES = Calls.NAMES;
    private static final int[] ARITY = {5, 3, 5, 0, 0, 2, 1, 1, 2, 1, 3, 3, 5, 2, 2, 1, 2, 4, 3, 1, 1, 0};
    // how often each is called: lines and runs make what the others look at
    private static final int[] WEIGHT = {6, 6, 16, 5, 3, 4, 14, 5, 6, 3, 8, 8, 8, 10, 6, 8, 4, 8, 3, 8, 4, 1};
    private static final int[] WILD = {Integer.MIN_VALUE, Integer.MIN_VALUE + 1, -2000000000, -401, -400, -201, -2, -1, 0, 1, 2,
        5, 6, 9, 10, 24, 60, 61, 200, 201, 399, 400, 401, 1000, 1001, 100000, 1000000, 1000001, Integer.MAX_VALUE - 1,
        Integer.MAX_VALUE};
    private static final int RUNS = 500;
    private static final int CALLS = 512;

    private static final Due due = new Due();
    private static final int[] answered = new int[NAMES.size()];

    public static void main(String[] args) {
        for (int seed = 0; seed < RUNS; seed++) {
            if (!oneRun(seed)) {
                break;
            }
        }
        for (int k = 0; k < NAMES.size(); k++) {
            due.holds(NAMES.get(k) + " was not refused often enough: " + answered[k], answered[k] >= 500);
        }
        due.end();
    }

    private static boolean oneRun(int seed) {
        Random random = new Random(seed);
        SoftBench bench = new SoftBench();
        BenchModel model = new BenchModel();
        StringBuilder told = new StringBuilder();
        for (int c = 0; c < CALLS; c++) {
            int method = c < 4 ? 0 : pick(random, model);
            int[] args = arguments(random, method, model);
            long want = model.call(method, args);
            long got = Calls.ask(bench, method, args);
            String call = Calls.told(NAMES.get(method), args);
            told.append(call).append(" = ").append(got).append('\n');
            due.is("seed " + seed + " call " + c + ": " + call, got, want);
            if (got != want) {
                System.out.println(told);
                return false;
            }
            if (want != -1 && want != -2 && want != -3 && want != -9 && want != SoftBench.NO) {
                answered[method]++;
            }
        }
        return true;
    }

    private static int pick(Random random, BenchModel model) {
        // a program beyond 400 TURNS gives no RUN: mostly cut it back
        if (model.turnCount() > 400 && random.nextInt(4) > 0) {
            return 3;
        }
        int sum = Arrays.stream(WEIGHT).sum();
        int at = random.nextInt(sum);
        int k = 0;
        while (at >= WEIGHT[k]) {
            at -= WEIGHT[k];
            k++;
        }
        return k;
    }

    private static int between(Random random, int lo, int hi) {
        return lo + random.nextInt(hi - lo + 1);
    }

    private static int[] arguments(Random random, int method, BenchModel model) {
        int[] a = likely(random, method, model);
        if (a.length > 0 && random.nextInt(12) == 0) {
            a[random.nextInt(a.length)] = WILD[random.nextInt(WILD.length)];
        }
        return a;
    }

    private static int[] likely(Random random, int method, BenchModel model) {
        int size = model.size();
        int i = between(random, 0, Math.max(0, size - 1));
        int near = Math.min(Math.max(0, size - 1), i + between(random, 0, 26));
        switch (method) {
            case 0: {
                int slope = between(random, 0, 50);
                return new int[] {between(random, 0, 2), slope, between(random, 0, 500), between(random, 1, 100),
                    between(random, 0, slope)};
            }
            case 1: return new int[] {between(random, 0, 4), between(random, -200, 200), between(random, 0, 40)};
            case 2: return likelyLine(random, model);
            case 5: return random.nextBoolean() ? new int[] {0, between(random, 0, 9)}
                : new int[] {1, random.nextInt(3) == 0 ? 100000 : between(random, 1, 3000)};
            case 6: return new int[] {between(random, 0, 3)};
            case 7: return new int[] {random.nextInt(5) == 0 ? size - 1 : i};
            case 8: return new int[] {i, between(random, 0, 3)};
            case 9: return new int[] {between(random, 0, 3)};
            case 10: return new int[] {i / 2, between(random, 1, 6), between(random, 0, 300)};
            case 11: return new int[] {i, near, between(random, 0, 1)};
            case 12: return likelyBeside(random, model, i, near);
            case 13: return new int[] {between(random, 0, Math.max(0, model.lineCount() - 1)), between(random, 0, 2)};
            case 14: return new int[] {i, Math.min(Math.max(0, size - 1), i + between(random, 0, 60))};
            case 15: return new int[] {between(random, 0, 3)};
            case 16: return new int[] {between(random, 0, 3), between(random, 0, 2)};
            case 17: return new int[] {between(random, 0, 3), between(random, 0, 3), between(random, -40, 40),
                between(random, 0, 1)};
            case 18: return new int[] {between(random, 0, 3), between(random, 0, 3), between(random, 0, 400)};
            case 19: return new int[] {random.nextInt(3) == 0 ? between(random, 0, 5) : between(random, 0, 3000)};
            case 20: return new int[] {between(random, 0, 5)};
            default: return new int[ARITY[method]];
        }
    }

    private static int[] likelyLine(Random random, BenchModel model) {
        int kind = random.nextInt(3) == 0 ? 2 : between(random, 0, 5);
        int top = random.nextBoolean() ? 200 : 12;
        int a = between(random, -top, top);
        int n = between(random, 1, random.nextInt(4) == 0 ? 60 : 12);
        int m = between(random, 1, 4);
        if (kind == 4) {
            a = between(random, 0, 40);
        } else if (kind == 5) {
            a = between(random, 0, Math.max(0, model.lineCount() - 1));
            n = between(random, 1, 3);
        } else if (kind == 2) {
            n = between(random, 1, 8);
        }
        return new int[] {kind, a, between(random, -top, top), n, m};
    }

    /** Lines near the points, some through the middle of what they ask for, so that 0 comes, too. */
    private static int[] likelyBeside(Random random, BenchModel model, int i, int near) {
        int j = random.nextBoolean() ? Math.min(near, i + 2) : near;
        if (random.nextInt(4) > 0 && model.size() > 0) {
            int[] best = bestLine(model, i, j);
            if (best != null) {
                int nudge = random.nextInt(4) == 0 ? between(random, -1, 1) : 0;
                return new int[] {i, j, best[0] + nudge, best[1], best[2]};
            }
        }
        return new int[] {i, j, between(random, -1000, 1000), between(random, -100, 100), between(random, 1, 1000)};
    }

    private static int[] bestLine(BenchModel model, int i, int j) {
        // the slope of two points, and the intercept in the middle of all of them
        for (int p = i; p <= j; p++) {
            for (int q = i; q <= j; q++) {
                long dx = model.call(8, new int[] {q, 1}) - model.call(8, new int[] {p, 1});
                long yp = model.call(8, new int[] {p, 0});
                long yq = model.call(8, new int[] {q, 0});
                if ((dx <= 0 && p != q) || yp == SoftBench.NO || yq == SoftBench.NO) {
                    continue;
                }
                long w = dx == 0 ? 1 : dx;
                long v = yq - yp;
                long lo = Long.MAX_VALUE;
                long hi = Long.MIN_VALUE;
                for (int t = i; t <= j; t++) {
                    long y = model.call(8, new int[] {t, 0});
                    if (y != SoftBench.NO) {
                        long off = y * w - v * model.call(8, new int[] {t, 1});
                        lo = Math.min(lo, off);
                        hi = Math.max(hi, off);
                    }
                }
                int[] line = {(int) (lo + hi), (int) (2 * v), (int) (2 * w)};
                if (Math.abs(lo + hi) <= 1000000 && 2 * w <= 1000
                    && model.call(12, new int[] {i, j, line[0], line[1], line[2]}) == 0) {
                    return line;
                }
            }
        }
        return null;
    }
}
