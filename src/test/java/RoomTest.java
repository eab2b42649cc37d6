import java.lang.reflect.Array;
import java.lang.reflect.Field;
import java.lang.reflect.Modifier;
import java.util.ArrayDeque;
import java.util.Collections;
import java.util.Deque;
import java.util.IdentityHashMap;
import java.util.Set;

/** The room that an object takes: what its constructor makes is all, whatever it is asked in its 512 calls. */
public final class RoomTest {
    /** What all calls of one run may take; a run may make some objects, not one alone. */
    private static final int OBJECTS_IN_ALL = 600_000;
    private static final int ELEMENTS_IN_ALL = 7_300_000;
    private static final int OBJECTS_MADE = 40;

    private RoomTest() {
    }

    public static void main(String[] args) throws IllegalAccessException {
        WindowRing ring = new WindowRing();
        int[] fresh = room(ring);
        Rings.due(fresh[0] + " objects and arrays", true, fresh[0] * OBJECTS_MADE <= OBJECTS_IN_ALL);
        Rings.due(fresh[1] + " fields and elements", true, fresh[1] * OBJECTS_MADE <= ELEMENTS_IN_ALL);
        ask(ring);
        Rings.due("it was run", true, ring.about(3) > 500);
        int[] asked = room(ring);
        Rings.due("no more objects and arrays behind all calls", true, asked[0] <= fresh[0]);
        Rings.due("no more fields and elements behind all calls", true, asked[1] <= fresh[1]);
        Rings.finish("RoomTest");
    }

    private static void ask(WindowRing ring) {
        Rings.feed(ring, "windows 3; slice 2; handler counter; def f n = if n < 2 then n else f(n - 1) + f(n - 2);"
            + "def w = w(); task f 13; task w; task f 9; task f 11;");
        ring.store();
        for (int i = 0; i < 16; i++) {
            ring.run(500);
            ring.handler(i % 4, 1 + i % 8);
            ring.slice(1 + i);
            ring.price(i, i);
            ring.again(i % 4);
            ring.undo();
            ring.redo();
            ring.best(0);
            ring.bestSlice(0);
            ring.would(1, 3, 0);
            ring.plain(0, i, 0, 0, 0);
            ring.profile(0, i, 0, 0, 0, 1);
            ring.depths(0, i);
            ring.alone(2, 3, 8, 0);
            ring.least(2, 4);
            ring.suits(2);
            ring.law();
            ring.image(i % 2);
            ring.back(i % 2);
        }
    }

    /** Objects and arrays, and their fields and elements, that can be come to from an object. */
    private static int[] room(Object from) throws IllegalAccessException {
        Set<Object> seen = Collections.newSetFromMap(new IdentityHashMap<>());
        Deque<Object> open = new ArrayDeque<>();
        open.add(from);
        seen.add(from);
        int elements = 0;
        while (!open.isEmpty()) {
            Object one = open.remove();
            if (one.getClass().isArray()) {
                elements += Array.getLength(one);
                for (int i = 0; one instanceof Object[] row && i < row.length; i++) {
                    meet(row[i], seen, open);
                }
            } else {
                elements += fields(one, seen, open);
            }
        }
        return new int[] {seen.size(), elements};
    }

    private static int fields(Object one, Set<Object> seen, Deque<Object> open) throws IllegalAccessException {
        int count = 0;
        for (Field field : one.getClass().getDeclaredFields()) {
            if (!Modifier.isStatic(field.getModifiers())) {
                count++;
                field.setAccessible(true);
                if (!field.getType().isPrimitive()) {
                    meet(field.get(one), seen, open);
                }
            }
        }
        return count;
    }

    private static void meet(Object one, Set<Object> seen, Deque<Object> open) {
        if (one != null && seen.add(one)) {
            open.add(one);
        }
    }
}
