import java.lang.reflect.Array;
import java.lang.reflect.Field;
import java.lang.reflect.Modifier;
import java.util.ArrayDeque;
import java.util.Collections;
import java.util.Deque;
import java.util.IdentityHashMap;
import java.util.Set;

/**
 * All calls of one run live in one room of some 600,000 objects and 7.3 million fields and elements:
 * what an object holds is made in its constructor, and no call puts anything new in its place.
 */
public final class RoomTest {
    private static final int MOST_OBJECTS = 30;
    private static final long MOST_ELEMENTS = 4000;

    private static Set<Object> reached(Object from) throws IllegalAccessException {
        Set<Object> seen = Collections.newSetFromMap(new IdentityHashMap<>());
        Deque<Object> left = new ArrayDeque<>();
        seen.add(from);
        left.add(from);
        while (!left.isEmpty()) {
            Object each = left.remove();
            if (each.getClass().isArray()) {
                continue;
            }
            for (Field field : each.getClass().getDeclaredFields()) {
                if (Modifier.isStatic(field.getModifiers()) || field.getType().isPrimitive()) {
                    continue;
                }
                field.setAccessible(true);
                Object held = field.get(each);
                if (held != null && seen.add(held)) {
                    left.add(held);
                }
            }
        }
        return seen;
    }

    private static long elements(Set<Object> objects) {
        long found = 0;
        for (Object each : objects) {
            found += each.getClass().isArray() ? Array.getLength(each) : each.getClass().getDeclaredFields().length;
        }
        return found;
    }

    /** 511 calls that fill the object to its limits and take most away again. */
    private static void fill(LogicalPairs x) {
        for (int n = 0; n < 15; n++) {
            x.kind(0);
        }
        for (int n = 0; n < 10; n++) {
            x.index(1, n % 2 == 0);
        }
        x.parent(1, 1, 2);
        for (int n = 1; n <= 250; n++) {
            x.segment(1, 0, -n);
        }
        for (int n = 2; n <= 231; n++) {
            x.relate(n, n - 1);
        }
        x.check();
        x.broken(0);
        x.entry(1, 249);
        x.child(1, 1, 0);
        x.delete(1);
    }

    public static void main(String[] args) throws IllegalAccessException {
        LogicalPairs x = new LogicalPairs();
        Set<Object> before = reached(x);
        fill(x);
        Set<Object> after = reached(x);
        boolean same = before.equals(after);
        boolean small = before.size() <= MOST_OBJECTS && elements(before) <= MOST_ELEMENTS;
        System.out.println(before.size() + " objects and arrays, " + elements(before)
            + " fields and elements; the same after a full run: " + same);
        if (!same || !small || x.told(2) != 19) {
            System.exit(1);
        }
    }
}
