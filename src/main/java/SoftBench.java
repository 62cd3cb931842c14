/** A bench that turns soft stuffs by a program and looks at what it read. See README.md. */
public final class SoftBench {
    public static final int BAD = -1, STATE = -2, FULL = -3, NONE = -9;
    public static final int NO = -2000000000;

    private static final int MOST_STUFFS = 6;
    private static final int MOST_LINES = 10;
    private static final int MOST_TURNS = 400;
    private static final int MOST_POINTS = 24;
    private static final int MOST_CURVES = 4;
    private static final int MOST_SHIFT = 400;

    private static final int THIN = 0;
    private static final int YIELD = 1;
    private static final int BENT = 2;

    private static final int STEP = 0;
    private static final int RAMP = 1;
    private static final int SWING = 2;
    private static final int REST = 3;
    private static final int WARM = 4;
    private static final int AGAIN = 5;

    private static final int TOP_RATE = 200;
    private static final int TOP_WARMTH = 40;
    private static final int FIRST_WARMTH = 20;
    private static final int TOP_LAG = 9;
    private static final int TOP_BOUND = 100000;
    private static final int TOP_BESIDE = 1000000;
    private static final int TOP_BESIDE_DIVISOR = 1000;

    private final Thin[] stuffs = new Thin[MOST_STUFFS];
    private final Program program = new Program();
    private final Readings latest = new Readings();
    private final Curve[] curves = new Curve[MOST_CURVES];
    private final Fit fit = new Fit();
    private final Overlay overlay = new Overlay();
    private int stuffCount = 0;
    private int lag = 0;
    private int bound = TOP_BOUND;
    private boolean linesAsRun = false;
    private int runCount = 0;
    private int passCount = 0;
    private int failCount = 0;
    private long traced = 0;

    public SoftBench() {
        for (int c = 0; c < MOST_CURVES; c++) {
            curves[c] = new Curve();
        }
    }

    // ---- stuffs

    public int stuff(int kind, int slope, int yield, int knee, int cut) {
        if (!isStuffAsTold(kind, slope, yield, knee, cut)) {
            return BAD;
        }
        if (stuffCount >= MOST_STUFFS) {
            return FULL;
        }
        int number = stuffCount;
        if (kind == BENT) {
            stuffs[number] = new Bent(slope, yield, knee, cut);
        } else if (kind == YIELD) {
            stuffs[number] = new Yielding(slope, yield);
        } else {
            stuffs[number] = new Thin(slope);
        }
        stuffCount = number + 1;
        return number;
    }

    public int press(int stuff, int rate, int warmth) {
        Thin body = stuffOf(stuff);
        if (body == null || !isRate(rate) || !isWithin(warmth, 0, TOP_WARMTH)) {
            return NO;
        }
        traced += body.askedBodies(rate);
        return body.pressAt(rate, warmth);
    }

    // ---- the program

    public int line(int kind, int a, int b, int n, int m) {
        if (!isLineAsTold(kind, a, b, n, m)) {
            return BAD;
        }
        if (program.size >= MOST_LINES) {
            return FULL;
        }
        linesAsRun = false;
        return program.append(kind, a, b, n, m);
    }

    public int drop() {
        if (program.size < 1) {
            return STATE;
        }
        linesAsRun = false;
        return program.removeLast();
    }

    public int turns() {
        return program.turnCount();
    }

    public int set(int what, int v) {
        int was = BAD;
        if (what == 0 && isWithin(v, 0, TOP_LAG)) {
            was = lag;
            lag = v;
        } else if (what == 1 && isWithin(v, 1, TOP_BOUND)) {
            was = bound;
            bound = v;
        }
        return was;
    }

    public int run(int stuff) {
        Thin body = stuffOf(stuff);
        if (body == null) {
            return BAD;
        }
        if (!isWithin(program.turnCount(), 1, MOST_TURNS)) {
            return STATE;
        }
        latest.layOut(program);
        latest.read(stuff, body, lag, bound);
        linesAsRun = true;
        runCount++;
        return latest.size;
    }

    public int lose(int i) {
        if (!latest.isThere(i)) {
            return NO;
        }
        int was = latest.values[i];
        latest.values[i] = NO;
        latest.lost++;
        return was;
    }

    public int at(int i, int what) {
        if (!latest.isPlace(i)) {
            return NO;
        }
        switch (what) {
            case 0: return latest.values[i];
            case 1: return latest.rates[i];
            case 2: return latest.warmths[i];
            case 3: return latest.lines[i];
            default: return NO;
        }
    }

    public int about(int what) {
        switch (what) {
            case 0: return latest.size;
            case 1: return latest.lost;
            case 2: return latest.clipped;
            case 3: return latest.stuff;
            default: return BAD;
        }
    }

    // ---- what is found

    public int steady(int i, int m, int e) {
        if (!latest.isPlace(i) || m < 1 || e < 0) {
            return BAD;
        }
        int last = latest.size - m;
        for (int place = i; place <= last; place++) {
            if (latest.isSteadyAt(place, m, e)) {
                return place;
            }
        }
        return NONE;
    }

    public long miss(int i, int j, int part) {
        if (!isWithin(part, 0, 1) || !fit.gather(latest, i, j)) {
            return NO;
        }
        fit.findMiss();
        return part == 0 ? fit.upper : fit.lower;
    }

    public int beside(int i, int j, int u, int v, int w) {
        if (!isWithin(u, -TOP_BESIDE, TOP_BESIDE) || !isWithin(v, -TOP_BESIDE, TOP_BESIDE)
                || !isWithin(w, 1, TOP_BESIDE_DIVISOR)) {
            return BAD;
        }
        if (!fit.gather(latest, i, j)) {
            return NONE;
        }
        fit.findMiss();
        return fit.farthest(u, v, w) * fit.lower > fit.upper * w ? 1 : 0;
    }

    public long swing(int line, int what) {
        if (!linesAsRun || !isWithin(line, 0, program.size - 1) || !isWithin(what, 0, 2)) {
            return NO;
        }
        Line told = program.lines[line];
        if (told.kind != SWING) {
            return NO;
        }
        int first = latest.firstPlaceOf(line);
        long sum = 0;
        for (int round = 0; round < told.m; round++) {
            int length = 4 * told.n;
            int start = first + round * length;
            if (latest.areThere(start, start + length - 1)) {
                sum += what == 0 ? 1 : latest.roundSum(start, length, what == 2 ? told.n : 0);
            }
        }
        return sum;
    }

    public long area(int i, int j) {
        if (i > j || !latest.areThere(i, j)) {
            return NO;
        }
        return latest.areaOf(i, j);
    }

    // ---- curves, checks

    public int keep(int curve) {
        if (!isCurve(curve)) {
            return BAD;
        }
        if (latest.size < 1) {
            return STATE;
        }
        curves[curve].take(latest);
        return latest.size;
    }

    public int curve(int curve, int what) {
        if (!isCurve(curve)) {
            return BAD;
        }
        Curve kept = curves[curve];
        switch (what) {
            case 0: return kept.isKept() ? kept.size : NONE;
            case 1: return kept.inDoubt ? 1 : 0;
            case 2: return kept.stuff;
            default: return BAD;
        }
    }

    public int spread(int curve, int other, int d, int what) {
        if (!isKeptCurve(curve) || !isKeptCurve(other) || !isWithin(what, 0, 1)) {
            return BAD;
        }
        overlay.lay(curves[curve], curves[other], d);
        if (what == 1) {
            return overlay.overlap;
        }
        return overlay.overlap > 0 ? overlay.spread : NONE;
    }

    public int shift(int curve, int other, int n) {
        if (!isKeptCurve(curve) || !isKeptCurve(other) || !isWithin(n, 0, MOST_SHIFT)) {
            return NO;
        }
        return overlay.bestShift(curves[curve], curves[other], n);
    }

    public int check(int e) {
        if (e < 0) {
            return BAD;
        }
        int last = latest.size - 1;
        Thin oil = stuffOf(latest.stuff);
        if (oil == null || oil.kind() != THIN || !latest.isThere(last)) {
            return STATE;
        }
        int due = oil.pressAt(latest.rates[last], latest.warmths[last]);
        if (Math.abs(latest.values[last] - due) <= e) {
            clearCurves();
            passCount++;
            return 1;
        }
        doubtCurves();
        failCount++;
        return 0;
    }

    public int count(int what) {
        switch (what) {
            case 0: return stuffCount;
            case 1: return program.size;
            case 2: return doubtCount();
            case 3: return passCount;
            case 4: return failCount;
            case 5: return runCount;
            default: return BAD;
        }
    }

    public long trace() {
        return traced;
    }

    // ---- what the calls above ask

    private static boolean isWithin(int number, int least, int most) {
        return number >= least && number <= most;
    }

    private static boolean isRate(int rate) {
        return isWithin(rate, -TOP_RATE, TOP_RATE);
    }

    private static boolean isTurnNumber(int n) {
        return isWithin(n, 1, 60);
    }

    private static boolean isStuffAsTold(int kind, int slope, int yield, int knee, int cut) {
        if (!isWithin(kind, THIN, BENT) || !isWithin(slope, 0, 50)) {
            return false;
        }
        if (kind >= YIELD && !isWithin(yield, 0, 500)) {
            return false;
        }
        return kind != BENT || isWithin(knee, 1, 100) && isWithin(cut, 0, slope);
    }

    private boolean isLineAsTold(int kind, int a, int b, int n, int m) {
        switch (kind) {
            case STEP: return isRate(a) && isTurnNumber(n);
            case RAMP: return isRate(a) && isRate(b) && isTurnNumber(n);
            case SWING: return isRate(a) && isTurnNumber(n) && isWithin(m, 1, 9);
            case REST: return isTurnNumber(n);
            case WARM: return isWithin(a, 0, TOP_WARMTH);
            case AGAIN: return isWithin(n, 1, 5) && program.canRepeatFrom(a);
            default: return false;
        }
    }

    private Thin stuffOf(int number) {
        return isWithin(number, 0, stuffCount - 1) ? stuffs[number] : null;
    }

    private static boolean isCurve(int number) {
        return isWithin(number, 0, MOST_CURVES - 1);
    }

    private boolean isKeptCurve(int number) {
        return isCurve(number) && curves[number].isKept();
    }

    private void clearCurves() {
        for (int c = 0; c < MOST_CURVES; c++) {
            curves[c].isCleared = true;
        }
    }

    private void doubtCurves() {
        for (int c = 0; c < MOST_CURVES; c++) {
            if (curves[c].isKept() && !curves[c].isCleared) {
                curves[c].inDoubt = true;
            }
        }
    }

    private int doubtCount() {
        int doubts = 0;
        for (int c = 0; c < MOST_CURVES; c++) {
            if (curves[c].inDoubt) {
                doubts++;
            }
        }
        return doubts;
    }

    /** The KIND that stands over all others. */
    private static class Thin {
        private final int slope;

        Thin(int slope) {
            this.slope = slope;
        }

        int kind() {
            return THIN;
        }

        /** THE PRESS at a RATE of 0 or above. */
        int forwardPress(int rate, int warmth) {
            return slope * rate * (50 - warmth) / 50;
        }

        /** What comes to THE TRACE for a RATE of 0 or above: it follows the way that forwardPress goes. */
        int forwardBodies(int rate) {
            return 1;
        }

        final int pressAt(int rate, int warmth) {
            return rate < 0 ? -forwardPress(-rate, warmth) : forwardPress(rate, warmth);
        }

        final int askedBodies(int rate) {
            return forwardBodies(Math.abs(rate));
        }
    }

    private static class Yielding extends Thin {
        private final int yieldPress;

        Yielding(int slope, int yieldPress) {
            super(slope);
            this.yieldPress = yieldPress;
        }

        int kind() {
            return YIELD;
        }

        int forwardPress(int rate, int warmth) {
            return rate == 0 ? 0 : super.forwardPress(rate, warmth) + yieldPress;
        }

        int forwardBodies(int rate) {
            return rate == 0 ? 10 : super.forwardBodies(rate) + 10;
        }
    }

    private static final class Bent extends Yielding {
        private final int knee;
        private final int cut;

        Bent(int slope, int yieldPress, int knee, int cut) {
            super(slope, yieldPress);
            this.knee = knee;
            this.cut = cut;
        }

        int kind() {
            return BENT;
        }

        int forwardPress(int rate, int warmth) {
            int above = Math.max(0, rate - knee);
            return Math.max(0, super.forwardPress(rate, warmth) - cut * above);
        }

        int forwardBodies(int rate) {
            return super.forwardBodies(rate) + 100;
        }
    }

    /** A LINE of THE PROGRAM; it is written anew when its number is used again. */
    private static final class Line {
        private int kind = REST;
        private int a = 0;
        private int b = 0;
        private int n = 1;
        private int m = 0;

        void become(int newKind, int newA, int newB, int newN, int newM) {
            kind = newKind;
            a = newA;
            b = newB;
            n = newN;
            m = newM;
        }

        int turnCount() {
            switch (kind) {
                case STEP:
                case RAMP:
                case REST: return n;
                case SWING: return 4 * n * m;
                default: return 0;
            }
        }

        int rateAt(int i) {
            switch (kind) {
                case STEP: return a;
                case RAMP: return n > 1 ? a + (b - a) * i / (n - 1) : a;
                case SWING: return swingRate(i);
                default: return 0;
            }
        }

        private int swingRate(int i) {
            if (n < 1) {
                return 0;
            }
            int j = i % (4 * n);
            if (j <= n) {
                return a * j / n;
            }
            return j <= 3 * n ? a * (2 * n - j) / n : a * (j - 4 * n) / n;
        }
    }

    private static final class Program {
        private final Line[] lines = new Line[MOST_LINES];
        private int size = 0;

        Program() {
            for (int l = 0; l < MOST_LINES; l++) {
                lines[l] = new Line();
            }
        }

        int append(int kind, int a, int b, int n, int m) {
            if (size >= MOST_LINES) {
                return FULL;
            }
            lines[size].become(kind, a, b, n, m);
            size++;
            return size - 1;
        }

        int removeLast() {
            size = Math.max(0, size - 1);
            return size;
        }

        boolean canRepeatFrom(int from) {
            if (from < 0 || from >= size) {
                return false;
            }
            for (int l = from; l < size; l++) {
                if (lines[l].kind == AGAIN) {
                    return false;
                }
            }
            return true;
        }

        int turnCount() {
            int turnsInAll = 0;
            for (int l = 0; l < size; l++) {
                turnsInAll += lines[l].turnCount();
                if (lines[l].kind == AGAIN) {
                    turnsInAll += lines[l].n * turnsOf(lines[l].a, l);
                }
            }
            return turnsInAll;
        }

        private int turnsOf(int from, int end) {
            int turnsThere = 0;
            for (int l = Math.max(0, from); l < end; l++) {
                turnsThere += lines[l].turnCount();
            }
            return turnsThere;
        }
    }

    /** READINGS in a row; NO stands where one is LOST. */
    private static class Row {
        final int[] values = new int[MOST_TURNS];
        int size = 0;
        int stuff = NONE;

        final boolean isPlace(int i) {
            return i >= 0 && i < size;
        }

        final boolean isThere(int i) {
            return isPlace(i) && values[i] != NO;
        }
    }

    /** READINGS of the latest RUN, with all that is known of their TURNS. */
    private static final class Readings extends Row {
        private final int[] rates = new int[MOST_TURNS];
        private final int[] warmths = new int[MOST_TURNS];
        private final int[] lines = new int[MOST_TURNS];
        private int lost = 0;
        private int clipped = 0;
        private int warmthNow = FIRST_WARMTH;

        void layOut(Program program) {
            size = 0;
            warmthNow = FIRST_WARMTH;
            for (int l = 0; l < program.size; l++) {
                Line line = program.lines[l];
                if (line.kind == AGAIN) {
                    for (int time = 0; time < line.n; time++) {
                        layLines(program, line.a, l);
                    }
                } else {
                    layLines(program, l, l + 1);
                }
            }
        }

        private void layLines(Program program, int from, int end) {
            for (int l = Math.max(0, from); l < end; l++) {
                Line line = program.lines[l];
                if (line.kind == WARM) {
                    warmthNow = line.a;
                }
                int turnsHere = line.turnCount();
                for (int i = 0; i < turnsHere && size < MOST_TURNS; i++) {
                    rates[size] = line.rateAt(i);
                    warmths[size] = warmthNow;
                    lines[size] = l;
                    size++;
                }
            }
        }

        void read(int stuffNumber, Thin body, int lag, int bound) {
            stuff = stuffNumber;
            lost = 0;
            clipped = 0;
            int before = 0;
            for (int t = 0; t < size; t++) {
                int pressHere = body.pressAt(rates[t], warmths[t]);
                int lagging = (lag * before + (10 - lag) * pressHere) / 10;
                before = Math.max(-bound, Math.min(bound, lagging));
                if (before != lagging) {
                    clipped++;
                }
                values[t] = before;
            }
        }

        boolean areThere(int i, int j) {
            if (!isPlace(i) || !isPlace(j)) {
                return false;
            }
            for (int t = i; t <= j; t++) {
                if (!isThere(t)) {
                    return false;
                }
            }
            return true;
        }

        boolean isSteadyAt(int place, int m, int e) {
            if (!isPlace(place) || m > size - place) {
                return false;
            }
            int least = values[place];
            int greatest = least;
            for (int t = place; t < place + m; t++) {
                if (!isThere(t)) {
                    return false;
                }
                least = Math.min(least, values[t]);
                greatest = Math.max(greatest, values[t]);
                // both are bounded readings here, so their difference fits
                if (greatest - least > e) {
                    return false;
                }
            }
            return true;
        }

        int firstPlaceOf(int line) {
            for (int t = 0; t < size; t++) {
                if (lines[t] == line) {
                    return t;
                }
            }
            return NONE;
        }

        /** Over a ROUND, the sum of READING times the RATE that was some TURNS back, the ROUND taken round. */
        long roundSum(int start, int length, int back) {
            if (length < 1 || !isPlace(start) || !isPlace(start + length - 1)) {
                return 0;
            }
            long sum = 0;
            for (int j = 0; j < length; j++) {
                int partner = Math.floorMod(j - back, length);
                sum += (long) values[start + j] * rates[start + partner];
            }
            return sum;
        }

        long areaOf(int i, int j) {
            long sum = 0;
            for (int t = i; t < j && isPlace(t) && isPlace(t + 1); t++) {
                sum += (long) (rates[t + 1] - rates[t]) * (values[t] + values[t + 1]);
            }
            return sum;
        }
    }

    private static final class Curve extends Row {
        /** A CHECK has passed since it was KEPT: no later one throws DOUBT on it. */
        private boolean isCleared = false;
        private boolean inDoubt = false;

        boolean isKept() {
            return size > 0;
        }

        void take(Row row) {
            System.arraycopy(row.values, 0, values, 0, row.size);
            size = row.size;
            stuff = row.stuff;
            isCleared = false;
            inDoubt = false;
        }
    }

    /** POINTS of some places, and THE MISS of them as upper by lower. */
    private static final class Fit {
        private final int[] xs = new int[MOST_POINTS];
        private final int[] ys = new int[MOST_POINTS];
        private int size = 0;
        private long upper = 0;
        private long lower = 1;

        boolean gather(Readings readings, int i, int j) {
            size = 0;
            if (i > j || !readings.isPlace(i) || !readings.isPlace(j)) {
                return false;
            }
            for (int t = i; t <= j; t++) {
                if (readings.isThere(t)) {
                    if (size >= MOST_POINTS) {
                        return false;
                    }
                    xs[size] = readings.rates[t];
                    ys[size] = readings.values[t];
                    size++;
                }
            }
            return size > 0;
        }

        /**
         * By duality the best line is held by two POINTS of one RATE, or by two POINTS and one
         * between them: THE MISS is the greatest that any of these ask for.
         */
        void findMiss() {
            upper = 0;
            lower = 1;
            for (int p = 0; p < size; p++) {
                for (int q = 0; q < size; q++) {
                    if (xs[p] == xs[q]) {
                        raise(Math.abs((long) ys[p] - ys[q]), 2);
                    } else if (xs[p] < xs[q]) {
                        raiseBetween(p, q);
                    }
                }
            }
            long common = greatestCommon(upper, lower);
            if (common > 1) {
                upper /= common;
                lower /= common;
            }
        }

        private void raiseBetween(int p, int q) {
            long width = xs[q] - xs[p];
            for (int c = 0; c < size; c++) {
                if (xs[c] > xs[p] && xs[c] < xs[q]) {
                    long chord = (long) ys[p] * (xs[q] - xs[c]) + (long) ys[q] * (xs[c] - xs[p]);
                    raise(Math.abs(ys[c] * width - chord), 2 * width);
                }
            }
        }

        private void raise(long otherUpper, long otherLower) {
            if (otherUpper * lower > upper * otherLower) {
                upper = otherUpper;
                lower = otherLower;
            }
        }

        private static long greatestCommon(long one, long two) {
            long a = one;
            long b = two;
            for (int k = 0; k < 100 && b != 0; k++) {
                long rest = a % b;
                a = b;
                b = rest;
            }
            return a;
        }

        /** How far (u + v x) by w is away at most, times w. */
        long farthest(int u, int v, int w) {
            long most = 0;
            for (int p = 0; p < size; p++) {
                long away = (long) ys[p] * w - u - (long) v * xs[p];
                most = Math.max(most, Math.abs(away));
            }
            return most;
        }
    }

    /** One CURVE LAID over another. */
    private static final class Overlay {
        private int overlap = 0;
        private int spread = 0;

        void lay(Row one, Row other, int d) {
            overlap = 0;
            spread = 0;
            // beyond all places nothing meets, and t + d would not fit
            if (d > MOST_TURNS || d < -MOST_TURNS) {
                return;
            }
            int end = Math.min(one.size, other.size - d);
            for (int t = Math.max(0, -d); t < end; t++) {
                int here = one.values[t];
                int there = other.values[t + d];
                if (here != NO && there != NO) {
                    overlap++;
                    spread = Math.max(spread, Math.abs(here - there));
                }
            }
        }

        int bestShift(Row one, Row other, int n) {
            int lesser = Math.min(one.size, other.size);
            int best = NO;
            int bestSpread = 0;
            // nearest to 0 first, the lesser of two first: only a lesser spread takes its place
            for (int k = 0; k <= 2 * n; k++) {
                int d = k % 2 == 1 ? -(k + 1) / 2 : k / 2;
                lay(one, other, d);
                if (overlap > 0 && 2 * overlap >= lesser && (best == NO || spread < bestSpread)) {
                    best = d;
                    bestSpread = spread;
                }
            }
            return best;
        }
    }
}
