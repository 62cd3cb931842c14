import java.util.ArrayList;
import java.util.Arrays;
import java.util.List;
import java.util.function.Supplier;

/**
 * A call that is refused changes nothing, and tells the first of what stands in its way. Each is told to one of
 * two benches that are alike; then both are asked for all that there is.
 */
public final class RefusedTest {
    private static final int BAD = SoftBench.BAD;
    private static final int STATE = SoftBench.STATE;
    private static final int FULL = SoftBench.FULL;
    private static final int NONE = SoftBench.NONE;
    private static final int NO = SoftBench.NO;
    private static final int MIN = Integer.MIN_VALUE;
    private static final int MAX = Integer.MAX_VALUE;
    private static final Due due = new Due();

    public static void main(String[] args) {
        firstOfThese();
        ofNew();
        ofBusy();
        ofFull();
        ofTooLong();
        askingChangesNothing();
        pressTracesAlone();
        due.end();
    }

    private static void firstOfThese() {
        due.sentence("Refused, and nothing changes, the first of these: BAD (a number is not as told, or there is no such"
            + " thing), STATE (as told), FULL.");
        SoftBench full = full();
        due.is("stuff: FULL", full.stuff(0, 1, 0, 1, 0), FULL);
        due.is("stuff: BAD and FULL", full.stuff(0, 51, 0, 1, 0), BAD);
        due.is("line: FULL", full.line(3, 0, 0, 1, 0), FULL);
        due.is("line: BAD and FULL", full.line(3, 0, 0, 61, 0), BAD);
        due.is("line: AGAIN and FULL", full.line(5, 8, 0, 1, 0), FULL);
        due.is("line: AGAIN that is BAD and FULL", full.line(5, 10, 0, 1, 0), BAD);
        SoftBench empty = new SoftBench();
        due.is("run: BAD and STATE", empty.run(0), BAD);
        due.is("keep: STATE", empty.keep(3), STATE);
        due.is("keep: BAD and STATE", empty.keep(4), BAD);
        due.is("check: STATE", empty.check(0), STATE);
        due.is("check: BAD and STATE", empty.check(-1), BAD);
        SoftBench tooLong = tooLong();
        due.is("run: STATE", tooLong.run(0), STATE);
        due.is("run: BAD and STATE", tooLong.run(2), BAD);
        due.is("beside: NONE", empty.beside(0, 0, 0, 0, 1), NONE);
        due.is("beside: BAD and NONE", empty.beside(0, 0, 0, 0, 0), BAD);
    }

    /** STUFFS of two KINDS, LAG, BOUND, LOST READINGS, CURVES in DOUBT and not, LINES as in the latest RUN. */
    private static SoftBench busy() {
        SoftBench x = Benches.thin(7);
        x.stuff(2, 9, 30, 4, 2);
        Benches.step(x, 90, 2);
        Benches.swing(x, 20, 2, 2);
        Benches.warm(x, 5);
        Benches.ramp(x, -10, 10, 5);
        Benches.again(x, 2, 1);
        x.set(0, 3);
        x.set(1, 200);
        x.press(1, 5, 5);
        x.run(1);
        x.keep(0);
        x.run(0);
        x.check(1000);
        x.lose(3);
        x.keep(1);
        x.check(0);
        x.lose(10);
        x.keep(2);
        return x;
    }

    /** Six STUFFS, ten LINES, all CURVES, 400 TURNS. */
    private static SoftBench full() {
        SoftBench x = new SoftBench();
        for (int s = 0; s < 6; s++) {
            x.stuff(s % 3, 10 + s, 20, 5, 3);
        }
        for (int l = 0; l < 9; l++) {
            Benches.step(x, 10 * l, 40);
        }
        Benches.ramp(x, 0, 39, 40);
        for (int c = 0; c < 4; c++) {
            x.run(c + 1);
            x.keep(c);
        }
        return x;
    }

    /** A RUN of a YIELD STUFF, and a program that has 401 TURNS since; its last READING is LOST. */
    private static SoftBench tooLong() {
        SoftBench x = Benches.thin(5);
        x.stuff(1, 5, 5, 1, 0);
        Benches.restTurns(x, 400);
        x.run(0);
        x.keep(0);
        x.lose(399);
        Benches.rest(x, 1);
        return x;
    }

    private static void ofNew() {
        refused(SoftBench::new, BAD, "stuff", 3, 0, 0, 1, 0);
        refused(SoftBench::new, BAD, "stuff", -1, 0, 0, 1, 0);
        refused(SoftBench::new, NO, "press", 0, 0, 0);
        refused(SoftBench::new, BAD, "line", 6, 0, 0, 1, 1);
        refused(SoftBench::new, BAD, "line", 5, 0, 0, 1, 1);
        refused(SoftBench::new, STATE, "drop");
        refused(SoftBench::new, BAD, "set", 0, 10);
        refused(SoftBench::new, BAD, "set", 1, 0);
        refused(SoftBench::new, BAD, "run", 0);
        refused(SoftBench::new, NO, "lose", 0);
        refused(SoftBench::new, STATE, "keep", 0);
        refused(SoftBench::new, BAD, "keep", -1);
        refused(SoftBench::new, STATE, "check", 0);
        refused(SoftBench::new, BAD, "check", -1);
        refused(() -> Benches.thin(1), STATE, "run", 0);
    }

    private static void ofBusy() {
        int[][] stuffs = {{3, 1, 1, 1, 1}, {0, 51, 1, 1, 1}, {1, 1, 501, 1, 1}, {2, 1, 1, 0, 1}, {2, 1, 1, 1, 2}};
        for (int[] s : stuffs) {
            refused(RefusedTest::busy, BAD, "stuff", s);
        }
        int[][] presses = {{2, 0, 0}, {-1, 0, 0}, {1, 201, 0}, {1, -201, 0}, {1, 5, 41}, {1, 5, -1}};
        for (int[] p : presses) {
            refused(RefusedTest::busy, NO, "press", p);
        }
        int[][] lines = {{-1, 1, 1, 1, 1}, {0, 201, 1, 1, 1}, {0, 1, 1, 61, 1}, {1, 1, 201, 1, 1}, {2, 1, 1, 1, 10},
            {3, 1, 1, 0, 1}, {4, 41, 1, 1, 1}, {5, 4, 1, 1, 1}, {5, 5, 1, 1, 1}, {5, -1, 1, 1, 1}};
        for (int[] l : lines) {
            refused(RefusedTest::busy, BAD, "line", l);
        }
        int[][] sets = {{0, 10}, {0, -1}, {1, 0}, {1, 100001}, {2, 5}, {-1, 5}, {MAX, 5}};
        for (int[] s : sets) {
            refused(RefusedTest::busy, BAD, "set", s);
        }
        int[] numbers = {-1, 2, MIN, MAX};
        for (int n : numbers) {
            refused(RefusedTest::busy, BAD, "run", n);
        }
        int[] places = {-1, 28, 3, 10, MIN, MAX};
        for (int i : places) {
            refused(RefusedTest::busy, NO, "lose", i);
        }
        int[] curves = {-1, 4, MIN, MAX};
        for (int c : curves) {
            refused(RefusedTest::busy, BAD, "keep", c);
        }
        refused(RefusedTest::busy, BAD, "check", -1);
        refused(RefusedTest::busy, BAD, "check", MIN);
    }

    private static void ofFull() {
        for (int kind = 0; kind <= 2; kind++) {
            refused(RefusedTest::full, FULL, "stuff", kind, 50, 500, 1, 0);
        }
        refused(RefusedTest::full, BAD, "stuff", 0, 51, 0, 1, 0);
        for (int kind = 0; kind <= 5; kind++) {
            refused(RefusedTest::full, FULL, "line", kind, 7, 7, 5, 5);
        }
        refused(RefusedTest::full, BAD, "line", 5, 10, 0, 1, 0);
        refused(RefusedTest::full, STATE, "check", 0);
        refused(RefusedTest::full, BAD, "run", 6);
        refused(RefusedTest::full, NO, "lose", 400);
    }

    private static void ofTooLong() {
        refused(RefusedTest::tooLong, STATE, "run", 0);
        refused(RefusedTest::tooLong, STATE, "run", 1);
        refused(RefusedTest::tooLong, BAD, "run", 2);
        refused(RefusedTest::tooLong, NO, "lose", 399);
        refused(RefusedTest::tooLong, STATE, "check", 0);
        refused(RefusedTest::tooLong, STATE, "check", MAX);
    }

    private static void askingChangesNothing() {
        due.sentence("Nothing is promised beyond the answers and state changes described above");
        int[][] asked = {
            {4}, {8, 1, 0}, {8, 3, 0}, {9, 0}, {9, 3}, {10, 0, 2, 50}, {10, 5, 3, 0}, {11, 0, 9, 0}, {11, 4, 20, 1},
            {12, 0, 9, 5, 5, 5}, {12, 1, 9, 0, 0, 1}, {13, 1, 0}, {13, 1, 2}, {14, 0, 2}, {14, 0, 9}, {16, 0, 0},
            {16, 3, 1}, {17, 0, 1, 3, 0}, {17, 0, 1, -3, 1}, {18, 0, 1, 20}, {18, 2, 1, 400}, {20, 2}, {20, 5}, {21},
        };
        for (int[] a : asked) {
            int[] args = Arrays.copyOfRange(a, 1, a.length);
            SoftBench x = busy();
            Calls.ask(x, a[0], args);
            expectAlike(Calls.told(Calls.NAMES.get(a[0]), args), x, busy());
        }
    }

    private static void pressTracesAlone() {
        due.sentence("THE TRACE.");
        SoftBench x = busy();
        SoftBench other = busy();
        x.press(1, 9, 9);
        other.press(1, -200, 0);
        expectAlike("a press is as any other of its way", x, other);
    }

    private static void refused(Supplier<SoftBench> bench, long answer, String name, int... args) {
        SoftBench x = bench.get();
        String told = Calls.told(name, args);
        due.is(told, Calls.ask(x, name, args), answer);
        expectAlike(told, x, bench.get());
    }

    private static void expectAlike(String told, SoftBench x, SoftBench other) {
        List<String> calls = new ArrayList<>();
        List<Long> seen = look(x, calls);
        List<Long> before = look(other, new ArrayList<>());
        for (int k = 0; k < seen.size(); k++) {
            due.is("behind " + told + ": " + calls.get(k), seen.get(k), before.get(k));
        }
    }

    /** All that can be seen of a bench, first by calls that change nothing. */
    private static List<Long> look(SoftBench x, List<String> calls) {
        List<Long> seen = new ArrayList<>();
        Asker ask = (name, a) -> {
            calls.add(Calls.told(name, a));
            seen.add(Calls.ask(x, name, a));
        };
        lookAtRun(ask, x.about(0));
        lookAtCurves(ask);
        for (int what = 0; what <= 5; what++) {
            ask.of("count", what);
        }
        ask.of("trace");
        ask.of("turns");
        tryOn(ask);
        return seen;
    }

    private interface Asker {
        void of(String name, int... args);
    }

    private static void lookAtRun(Asker ask, int size) {
        for (int what = 0; what <= 3; what++) {
            ask.of("about", what);
            for (int i : new int[] {0, 1, 2, 3, 4, 10, 20, size - 1, size}) {
                ask.of("at", i, what);
            }
        }
        for (int i = 0; i < 4; i++) {
            ask.of("steady", 7 * i, 3, 4 * i);
            ask.of("miss", 7 * i, 7 * i + 6, i % 2);
            ask.of("beside", 7 * i, 7 * i + 6, 1, 7, 2);
            ask.of("area", 7 * i, 7 * i + 3);
        }
        for (int l = 0; l < 10; l++) {
            ask.of("swing", l, l % 3);
        }
    }

    private static void lookAtCurves(Asker ask) {
        for (int c = 0; c < 4; c++) {
            for (int what = 0; what <= 2; what++) {
                ask.of("curve", c, what);
            }
            for (int o = 0; o < 4; o++) {
                ask.of("spread", c, o, c - o, 0);
                ask.of("spread", c, o, o, 1);
                ask.of("shift", c, o, 4);
            }
        }
    }

    /** What is held but only shows when it is used: LAG, BOUND, LINES one by one, what was KEPT since a CHECK. */
    private static void tryOn(Asker ask) {
        ask.of("check", 5);
        ask.of("count", 2);
        for (int s = 0; s < 6; s++) {
            ask.of("press", s, 50, 3);
            ask.of("run", s);
            ask.of("at", 5, 0);
            ask.of("about", 2);
        }
        ask.of("keep", 3);
        ask.of("check", 0);
        ask.of("count", 2);
        ask.of("set", 0, 0);
        ask.of("set", 1, 100000);
        ask.of("trace");
        for (int l = 10; l >= 0; l--) {
            ask.of("drop");
            ask.of("turns");
            ask.of("run", 0);
            ask.of("at", 2 * l, 1);
        }
        ask.of("stuff", 0, 5, 0, 1, 0);
        ask.of("line", 3, 0, 0, 1, 0);
        for (int what = 0; what <= 5; what++) {
            ask.of("count", what);
        }
    }
}
