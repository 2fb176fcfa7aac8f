import java.lang.management.ManagementFactory;
import java.lang.reflect.Array;
import java.lang.reflect.Field;
import java.lang.reflect.Modifier;
import java.util.IdentityHashMap;
import java.util.Map;

/** All calls of a run live in one room: an object is small, and its calls make nothing but what they throw. */
public final class RoomTest {
    private static final long MOST_ELEMENTS = 400_000;
    private static final long MOST_OBJECTS = 200;
    private static final long MOST_BYTES_OF_CALLS = 100_000;

    private static int wrong = 0;
    private static long elements = 0;

    private RoomTest() {
    }

    public static void main(String[] args) throws IllegalAccessException {
        SsaForge x = new SsaForge();
        Map<Object, Boolean> seen = new IdentityHashMap<>();
        measure(x, seen);
        check("fields and elements of an object", elements, MOST_ELEMENTS);
        check("objects and arrays of an object", seen.size(), MOST_OBJECTS);
        byte[] text = Call.latin("b0: v1 = 3 v3 = in jump b1 b1: v2 = v2 + v3 v1 = v1 - 1 v4 = v3 * 2 show v4 if v1 b1 b2 "
                + "b2: if v2 b3 b1 b3: ret v2");
        everyCall(x, text);
        long before = allocated();
        for (int i = 0; i < 20; i++) {
            everyCall(x, text);
        }
        check("bytes that 20 times all calls make", allocated() - before, MOST_BYTES_OF_CALLS);
        if (wrong != 0) {
            System.exit(1);
        }
    }

    private static void check(String what, long got, long most) {
        System.out.println(what + ": " + got);
        if (got > most) {
            wrong++;
            System.out.println("that is more than " + most);
        }
    }

    private static long allocated() {
        com.sun.management.ThreadMXBean bean = (com.sun.management.ThreadMXBean) ManagementFactory.getThreadMXBean();
        return bean.getThreadAllocatedBytes(Thread.currentThread().getId());
    }

    private static void everyCall(SsaForge x, byte[] text) {
        Call.feedBytes(x, text);
        x.text();
        look(x);
        x.ssa();
        for (int k = 1; k <= 7; k++) {
            look(x);
            x.pass(k);
        }
        look(x);
        x.plain();
        look(x);
        x.feed(1, 2, 3, 4, 5);
        x.input();
    }

    private static void look(SsaForge x) {
        x.list();
        x.word(3);
        x.run(100000);
        for (int i = 0; i < 8; i++) {
            x.count(i);
        }
        for (int i = 0; i < 5; i++) {
            x.told(i);
            x.block(0, i);
        }
    }

    /** Goes through all that an object holds, and counts it. */
    private static void measure(Object x, Map<Object, Boolean> seen) throws IllegalAccessException {
        if (x == null || x instanceof String || seen.put(x, true) != null) {
            return;
        }
        if (x.getClass().isArray()) {
            elements += Array.getLength(x);
            return;
        }
        for (Field field : x.getClass().getDeclaredFields()) {
            if (!Modifier.isStatic(field.getModifiers())) {
                elements++;
                field.setAccessible(true);
                if (!field.getType().isPrimitive()) {
                    measure(field.get(x), seen);
                }
            }
        }
    }
}
