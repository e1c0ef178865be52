import java.lang.management.ManagementFactory;
import java.lang.reflect.Array;
import java.lang.reflect.Field;
import java.lang.reflect.Modifier;
import java.util.ArrayDeque;
import java.util.Collections;
import java.util.IdentityHashMap;
import java.util.Set;

/** All calls of a run live in one room: a new object is small, and no later call makes anything. */
public final class RoomTest {
    public static void main(String[] args) throws IllegalAccessException {
        Check check = new Check();
        check.in("room");
        long[] counted = count(new PathRunner(1));
        System.out.println("a new object: " + counted[0] + " objects, " + counted[1] + " fields and elements");
        check.due("objects above 10,000", false, counted[0] > 10_000);
        check.due("fields and elements above 400,000", false, counted[1] > 400_000);

        com.sun.management.ThreadMXBean threads =
                (com.sun.management.ThreadMXBean) ManagementFactory.getThreadMXBean();
        PathRunner r = stirring();
        long me = Thread.currentThread().getId();
        everyCall(r);
        long before = threads.getThreadAllocatedBytes(me);
        for (int i = 0; i < 36; i++) {
            everyCall(r);
        }
        long made = threads.getThreadAllocatedBytes(me) - before;
        System.out.println("504 calls made " + made + " bytes");
        check.due("504 calls make more than a few bytes", false, made > 4_096);
        check.end("RoomTest");
    }

    private static PathRunner stirring() {
        PathRunner r = new PathRunner(1);
        r.method(2);
        int[] pairs = {1, 0, 1, 1, 18, 3, 1, 0, 0, 3, 8, 0, 1, 1, 6, 0, 2, 0, 1, 0, 1, 1, 19, 12, 1, 1,
            0, 7, 14, 0, 2, 1, 17, 0};
        for (int i = 0; i < pairs.length; i += 2) {
            r.operation(0, pairs[i], pairs[i + 1]);
        }
        return r;
    }

    private static void everyCall(PathRunner r) {
        r.search(0, 200, 1, 50);
        r.more(50);
        r.told(3);
        r.path(3, 5);
        r.condition(3, 1, 0);
        r.token(3, 0);
        r.value(3, 1, 1);
        r.along(3, 3);
        r.input(3, 3);
        r.flip(3, 3);
        r.pruned(3, 0);
        r.times(0, 3);
        r.plain(0, 3, 5, 200, 3);
        r.agrees();
    }

    private static long[] count(Object root) throws IllegalAccessException {
        Set<Object> seen = Collections.newSetFromMap(new IdentityHashMap<>());
        ArrayDeque<Object> open = new ArrayDeque<>();
        open.add(root);
        seen.add(root);
        long parts = 0;
        while (!open.isEmpty()) {
            Object one = open.remove();
            if (one.getClass().isArray()) {
                parts += Array.getLength(one);
                if (one instanceof Object[]) {
                    for (Object element : (Object[]) one) {
                        reach(element, seen, open);
                    }
                }
                continue;
            }
            for (Field field : one.getClass().getDeclaredFields()) {
                if (!Modifier.isStatic(field.getModifiers())) {
                    parts++;
                    field.setAccessible(true);
                    if (!field.getType().isPrimitive()) {
                        reach(field.get(one), seen, open);
                    }
                }
            }
        }
        return new long[] {seen.size(), parts};
    }

    private static void reach(Object one, Set<Object> seen, ArrayDeque<Object> open) {
        if (one != null && seen.add(one)) {
            open.add(one);
        }
    }
}
