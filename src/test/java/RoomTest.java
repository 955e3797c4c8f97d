import java.lang.management.ManagementFactory;
import java.lang.reflect.Array;
import java.lang.reflect.Field;
import java.lang.reflect.Modifier;
import java.util.ArrayDeque;
import java.util.Collections;
import java.util.Deque;
import java.util.IdentityHashMap;
import java.util.Set;

/** What a run makes: a room has some 600,000 objects and arrays, 7.3 million fields and elements in all. */
final class RoomTest {
    private static final int MOST_OBJECTS = 300;
    private static final int MOST_ELEMENTS = 40_000;
    // no call behind the making of talks and helpers makes an object; the measuring itself makes some
    private static final long MOST_BYTES = 20_000;

    private final Set<Object> seen = Collections.newSetFromMap(new IdentityHashMap<>());
    private final Deque<Object> waiting = new ArrayDeque<>();
    private int elements = 0;

    private void add(Object object) {
        if (object != null && seen.add(object)) {
            waiting.add(object);
        }
    }

    /** Counts the objects that hang on one, and their fields and elements. */
    private RoomTest(Object first) throws IllegalAccessException {
        add(first);
        while (!waiting.isEmpty()) {
            Object object = waiting.remove();
            if (object.getClass().isArray()) {
                elements += Array.getLength(object);
                for (int i = 0; object instanceof Object[] && i < Array.getLength(object); i++) {
                    add(Array.get(object, i));
                }
            } else {
                addFields(object);
            }
        }
    }

    private void addFields(Object object) throws IllegalAccessException {
        for (Field field : object.getClass().getDeclaredFields()) {
            if (!Modifier.isStatic(field.getModifiers())) {
                elements++;
                field.setAccessible(true);
                if (!field.getType().isPrimitive()) {
                    add(field.get(object));
                }
            }
        }
    }

    private static void isSmall(String what, HelperWeave x) throws IllegalAccessException {
        RoomTest room = new RoomTest(x);
        Check.due(what + " has " + room.seen.size() + " objects", room.seen.size() <= MOST_OBJECTS ? 1 : 0, 1);
        Check.due(what + " has " + room.elements + " elements", room.elements <= MOST_ELEMENTS ? 1 : 0, 1);
    }

    private static void makeAll(HelperWeave x) {
        Check.write(x, "{(!a|!b|!c|?d|?e)(!a|!b|!c|?d|?e)}");
        for (int t = 0; t < 6; t++) {
            x.talk();
            Check.write(x, t % 2 == 0 ? "{(?a|?b|?c|!d|!e)(?a|?b|?c|!d|!e)}" : "{(!a|!b|!c|?d|?e)(!a|!b|!c|?d|?e)}");
        }
        for (int s = 0; s < 8; s++) {
            x.helper(s, 255 ^ s, 1 << s);
            x.set(s, 4, 7 - s);
        }
    }

    /** The dearest calls, as often as they may be. */
    private static void callAll(HelperWeave x) {
        for (int i = 0; i < 20; i++) {
            x.join(i % 6, (i + 1) % 6, 2);
            x.adapters(i % 6, (i + 1) % 6);
            x.plan(i, 2048, 5);
        }
        for (int i = 0; i < 60; i++) {
            x.join(i % 6, i / 6 % 6, 0);
            x.fit(i % 6, i / 6 % 6);
            x.put(i % 8);
            x.mean(3, 0);
            x.undone(4095);
            x.call(i % 8, 2);
            x.held(1);
            x.digest();
        }
    }

    private static long allocated() {
        return ManagementFactory.getThreadMXBean() instanceof com.sun.management.ThreadMXBean bean
            ? bean.getCurrentThreadAllocatedBytes() : 0;
    }

    public static void main(String[] args) throws IllegalAccessException {
        isSmall("a new object", new HelperWeave());
        HelperWeave warm = new HelperWeave();
        makeAll(warm);
        callAll(warm);
        HelperWeave x = new HelperWeave();
        makeAll(x);
        isSmall("an object with all talks and helpers", x);
        allocated();
        long before = allocated();
        callAll(x);
        long made = allocated() - before;
        Check.due("the dearest calls make " + made + " bytes", made <= MOST_BYTES ? 1 : 0, 1);
        Check.due("count(4)", x.count(4), 20);
        Check.due("count(5)", x.count(5), 20);
        Check.due("count(6)", x.count(6), 20);
        isSmall("an object behind the dearest calls", x);
        Check.finish("RoomTest");
    }
}
