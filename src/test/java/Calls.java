import java.util.Arrays;
import java.util.List;

/** The calls of the face by name or by place, for tests that tell calls as rows of numbers. */
final class Calls {
    static final List<String> NAMES = List.of("stuff", "press", "line", "drop", "turns", "set", "run", "lose", "at",
        "about", "steady", "miss", "beside", "swing", "area", "keep", "curve", "spread", "shift", "check", "count", "trace");

    private Calls() { }

    static String told(String name, int... a) {
        String row = Arrays.toString(a);
        return name + "(" + row.substring(1, row.length() - 1) + ")";
    }

    static long ask(SoftBench x, String name, int... a) {
        return ask(x, NAMES.indexOf(name), a);
    }

    static long ask(SoftBench x, int method, int... a) {
        switch (method) {
            case 0: return x.stuff(a[0], a[1], a[2], a[3], a[4]);
            case 1: return x.press(a[0], a[1], a[2]);
            case 2: return x.line(a[0], a[1], a[2], a[3], a[4]);
            case 3: return x.drop();
            case 4: return x.turns();
            case 5: return x.set(a[0], a[1]);
            case 6: return x.run(a[0]);
            case 7: return x.lose(a[0]);
            case 8: return x.at(a[0], a[1]);
            case 9: return x.about(a[0]);
            case 10: return x.steady(a[0], a[1], a[2]);
            case 11: return x.miss(a[0], a[1], a[2]);
            case 12: return x.beside(a[0], a[1], a[2], a[3], a[4]);
            case 13: return x.swing(a[0], a[1]);
            case 14: return x.area(a[0], a[1]);
            case 15: return x.keep(a[0]);
            case 16: return x.curve(a[0], a[1]);
            case 17: return x.spread(a[0], a[1], a[2], a[3]);
            case 18: return x.shift(a[0], a[1], a[2]);
            case 19: return x.check(a[0]);
            case 20: return x.count(a[0]);
            case 21: return x.trace();
            default: throw new IllegalArgumentException("no such call: " + method);
        }
    }
}
