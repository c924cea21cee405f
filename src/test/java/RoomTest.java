import java.lang.management.ManagementFactory;
import java.lang.reflect.Array;
import java.lang.reflect.Field;
import java.lang.reflect.Modifier;
import java.util.ArrayDeque;
import java.util.Collections;
import java.util.IdentityHashMap;
import java.util.Set;

/** All calls of a run live in one room: what an object holds is small, and calls make nothing more. */
public final class RoomTest {
    private static final long MOST_OBJECTS = 200;
    private static final long MOST_ELEMENTS = 8000;
    private static final int[] SIZES = {5, 12, 20};
    private static final Due due = new Due();

    public static void main(String[] args) throws IllegalAccessException {
        ThinTables x = new ThinTables();
        measure(x);
        callsMakeNothing(x);
        due.end();
    }

    private static void measure(ThinTables x) throws IllegalAccessException {
        Set<Object> seen = Collections.newSetFromMap(new IdentityHashMap<>());
        ArrayDeque<Object> open = new ArrayDeque<>();
        long elements = 0;
        seen.add(x);
        open.add(x);
        while (!open.isEmpty()) {
            Object one = open.remove();
            if (one.getClass().isArray()) {
                elements += Array.getLength(one);
                if (one instanceof int[][] rows) {
                    for (int[] row : rows) {
                        if (seen.add(row)) open.add(row);
                    }
                }
                continue;
            }
            for (Field field : one.getClass().getDeclaredFields()) {
                if (Modifier.isStatic(field.getModifiers())) continue;
                elements++;
                field.setAccessible(true);
                Object held = field.get(one);
                due.holds(field + " is null", held != null);
                if (!field.getType().isPrimitive() && held != null && seen.add(held)) open.add(held);
            }
        }
        System.out.println("an object holds " + seen.size() + " objects and arrays, " + elements + " fields and elements");
        due.holds("objects: " + seen.size(), seen.size() <= MOST_OBJECTS);
        due.holds("elements: " + elements, elements <= MOST_ELEMENTS);
    }

    private static void callsMakeNothing(ThinTables x) {
        var threads = (com.sun.management.ThreadMXBean) ManagementFactory.getThreadMXBean();
        everyCall(x);
        long before = threads.getCurrentThreadAllocatedBytes();
        long between = threads.getCurrentThreadAllocatedBytes();
        everyCall(x);
        long after = threads.getCurrentThreadAllocatedBytes();
        due.is("bytes that all calls make", after - between - (between - before), 0);
    }

    private static long everyCall(ThinTables x) {
        long sum = 0;
        for (int n : SIZES) {
            x.size(n);
            for (int i = 0; i < n; i++) {
                sum += x.set(i, i, i + 1) + x.set(i, (i * 7 + 3) % n, 5) + x.side(i, i) + x.cell(i, i);
            }
            for (int what = 0; what < 10; what++) {
                sum += x.count(what);
            }
            for (int kind = 3; kind >= 0; kind--) {
                sum += x.order(kind);
            }
            sum += x.heap() + x.columns(3) + x.matched(1) + x.block(1) + x.rows(0) + x.joined(1) + x.change(0, 1)
                    + x.node(1, 3) + x.going(1) + x.prime(101) + x.stop() + x.factor(0, 1, 0) + x.full()
                    + x.determinant() + x.rank() + x.solution(1) + x.inverse(1, 1) + x.changed(0, 0, 1)
                    + x.exact(0, 0) + x.exact(0, 1) + x.exact(0, 2);
        }
        return sum;
    }
}
