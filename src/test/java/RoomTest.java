import java.lang.management.ManagementFactory;
import java.lang.reflect.Array;
import java.lang.reflect.Field;
import java.lang.reflect.Modifier;
import java.util.Collections;
import java.util.IdentityHashMap;
import java.util.Set;

/** All calls of a run live in one room: a bench makes what it needs once, and uses it again. */
public final class RoomTest {
    private static final Due due = new Due();
    private static long objects = 0;
    private static long elements = 0;

    public static void main(String[] args) throws IllegalAccessException {
        SoftBench x = filled();
        everyCall(x, 512);
        sizeOf(x);
        callsMakeNothing();
        due.end();
    }

    /** A bench with all that it can hold. */
    private static SoftBench filled() {
        SoftBench x = new SoftBench();
        for (int s = 0; s < 6; s++) {
            x.stuff(s % 3, 50, 500, 1, 50);
        }
        x.line(2, 200, 0, 11, 9);
        x.run(0);
        for (int c = 0; c < 4; c++) {
            x.keep(c);
        }
        return x;
    }

    private static void everyCall(SoftBench x, int times) {
        int[][] rows = {{0, 1, 20, 3, 4}, {1, 23, 1, 5, 6}, {2, 2, 400, 2, 1}, {3, 1, 1, 1, 1}};
        for (int k = 0; k < times; k++) {
            Calls.ask(x, k % Calls.NAMES.size(), rows[k / Calls.NAMES.size() % rows.length]);
        }
    }

    /** What hangs on a bench is far below the room of 600,000 objects and 7.3 million fields and elements. */
    private static void sizeOf(SoftBench x) throws IllegalAccessException {
        walk(x, Collections.newSetFromMap(new IdentityHashMap<>()));
        due.holds("few objects: " + objects, objects <= 60);
        due.holds("few fields and elements: " + elements, elements <= 5000);
    }

    private static void walk(Object o, Set<Object> seen) throws IllegalAccessException {
        if (o == null || !seen.add(o)) {
            return;
        }
        objects++;
        Class<?> type = o.getClass();
        if (type.isArray()) {
            int length = Array.getLength(o);
            elements += length;
            for (int i = 0; i < length && !type.getComponentType().isPrimitive(); i++) {
                walk(Array.get(o, i), seen);
            }
            return;
        }
        for (Class<?> c = type; c != Object.class; c = c.getSuperclass()) {
            for (Field f : c.getDeclaredFields()) {
                if (!Modifier.isStatic(f.getModifiers())) {
                    elements++;
                    f.setAccessible(true);
                    if (!f.getType().isPrimitive()) {
                        walk(f.get(o), seen);
                    }
                }
            }
        }
    }

    /** One object of 16 bytes a call would be 8192 bytes; below that is left to what the machine makes by itself. */
    private static void callsMakeNothing() {
        if (!(ManagementFactory.getThreadMXBean() instanceof com.sun.management.ThreadMXBean threads)) {
            return;
        }
        SoftBench x = filled();
        allButStuff(x, 100);
        long before = threads.getCurrentThreadAllocatedBytes();
        allButStuff(x, 512);
        long made = threads.getCurrentThreadAllocatedBytes() - before;
        due.holds("512 of each call but stuff() make no objects: " + made + " bytes", made < 8192);
    }

    private static void allButStuff(SoftBench x, int times) {
        for (int k = 0; k < times; k++) {
            x.press(5, 200, 0);
            x.line(0, 1, 0, 1, 0);
            x.turns();
            x.drop();
            x.set(0, k % 10);
            x.run(k % 6);
            x.lose(395);
            x.at(k % 400, k % 4);
            x.about(k % 4);
            x.steady(0, 40, 5);
            x.miss(0, 23, 0);
            x.beside(0, 23, 1, 1, 7);
            x.swing(0, 2);
            x.area(0, 390);
            x.keep(k % 4);
            x.curve(k % 4, k % 3);
            x.spread(0, 1, 3, 0);
            x.shift(2, 3, 20);
            x.check(k);
            x.count(k % 6);
            x.trace();
        }
    }
}
