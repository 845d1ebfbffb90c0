import java.lang.management.ManagementFactory;
import java.lang.reflect.Array;
import java.lang.reflect.Field;
import java.lang.reflect.Modifier;
import java.util.ArrayDeque;
import java.util.IdentityHashMap;
import java.util.Map;

/** All of a run's objects live in one room: even if each call of 512 made one, they would fit. */
public final class RoomTest {
    private static final int CALLS = 512;
    private static final long MOST_OBJECTS = 600_000;
    private static final long MOST_ELEMENTS = 7_300_000;

    private static long objects = 0;
    private static long elements = 0;

    public static void main(String[] args) throws IllegalAccessException {
        measure(new ScopeGraph());
        System.out.println("one object: " + objects + " objects and arrays, " + elements + " fields and elements");
        Check.due("objects fit", objects * CALLS < MOST_OBJECTS ? 1 : 0, 1);
        Check.due("elements fit", elements * CALLS < MOST_ELEMENTS ? 1 : 0, 1);
        callsMakeNothing();
        Check.finish(3);
    }

    private static void measure(Object first) throws IllegalAccessException {
        Map<Object, Boolean> seen = new IdentityHashMap<>();
        ArrayDeque<Object> waiting = new ArrayDeque<>();
        waiting.add(first);
        while (!waiting.isEmpty()) {
            Object object = waiting.remove();
            if (seen.put(object, true) != null) {
                continue;
            }
            objects++;
            if (object.getClass().isArray()) {
                elements += Array.getLength(object);
                continue;
            }
            for (Field field : object.getClass().getDeclaredFields()) {
                if (!Modifier.isStatic(field.getModifiers())) {
                    elements++;
                    field.setAccessible(true);
                    Object value = field.getType().isPrimitive() ? null : field.get(object);
                    if (value != null) {
                        waiting.add(value);
                    }
                }
            }
        }
    }

    /** Once the machine is warm, reads, renamings and questions leave no object behind. */
    private static void callsMakeNothing() {
        com.sun.management.ThreadMXBean threads = (com.sun.management.ThreadMXBean) ManagementFactory.getThreadMXBean();
        ScopeGraph graph = new ScopeGraph();
        long least = Long.MAX_VALUE;
        for (int round = 0; round < 20; round++) {
            long before = threads.getThreadAllocatedBytes(Thread.currentThread().getId());
            someCalls(graph);
            long made = threads.getThreadAllocatedBytes(Thread.currentThread().getId()) - before;
            least = Math.min(least, made);
        }
        Check.due("some hundred calls make less than a row of bytes", least < 4000 ? 1 : 0, 1);
    }

    private static void someCalls(ScopeGraph graph) {
        for (int n = 0; n < 20; n++) {
            // def a = 1; import b; then the name c
            graph.feed(0x64656620, 0x61203d20, 0x313b2069, 0x6d706f72, 0x7420623b);
            graph.read();
            graph.feed(0x63202020, 0, 0, 0, 0);
            graph.end(1);
            graph.rename(0);
            for (int what = 0; what < 8; what++) {
                graph.count(what);
            }
            graph.friends(0, 0);
            graph.feed(0, 0, 0, 0, 0);
            graph.read();
        }
    }
}
