import java.lang.management.ManagementFactory;
import java.lang.reflect.Array;
import java.lang.reflect.Field;
import java.lang.reflect.Modifier;
import java.math.BigInteger;
import java.util.IdentityHashMap;
import java.util.Map;

/** All calls of a run live in one room that is never cleared: the rows are made once, and no call makes any. */
public final class RoomTest {
    private static final int MOST_OBJECTS = 100;
    private static final int MOST_ELEMENTS = 200000;
    private static final int CALLS = 100;

    /** What the Java runtime may take for itself while the calls run; a single row would be 25000 bytes a call. */
    private static final long MOST_BYTES = 100000;

    private RoomTest() {
    }

    public static void main(String[] args) throws IllegalAccessException {
        LimbWorks works = new LimbWorks();
        Numbers.plant(works, 0, 9, BigInteger.ONE.shiftLeft(200000).subtract(BigInteger.TEN));
        Numbers.plant(works, 1, 9, BigInteger.TEN.pow(30000));
        Numbers.plant(works, 2, 9, BigInteger.TEN.pow(600));
        Numbers.plant(works, 3, 9, BigInteger.TEN.pow(19999));
        dearCalls(works);
        long before = allocated();
        for (int i = 0; i < CALLS; i++) {
            dearCalls(works);
        }
        long made = allocated() - before;
        Checks.same("calls make less than " + MOST_BYTES + " bytes: " + made, true, made < MOST_BYTES);
        checkSize(works);
        Checks.finish("RoomTest");
    }

    private static void dearCalls(LimbWorks works) {
        works.set(4, -1);
        works.copy(5, 0);
        works.shift(5, 5, -77777);
        works.add(6, 1, 5);
        works.subtract(6, 6, 5);
        works.times(6, 1, 1);
        works.divide(6, 7, 0, 1);
        works.power(6, 2, 100);
        works.root(6, 0, 2);
        works.root(6, 0, 40);
        works.compare(0, 6);
        works.feed(0x31313131, 0x31313131, 0x31313131, 0x31313131, 0x31313131);
        works.end(19);
        works.read(8, 10);
        works.write(3, 10);
        works.octet(19999);
    }

    private static long allocated() {
        com.sun.management.ThreadMXBean threads = (com.sun.management.ThreadMXBean) ManagementFactory.getThreadMXBean();
        return threads.getThreadAllocatedBytes(Thread.currentThread().getId());
    }

    private static void checkSize(LimbWorks works) throws IllegalAccessException {
        Map<Object, Boolean> seen = new IdentityHashMap<>();
        int elements = countElements(works, seen);
        Checks.same("objects and arrays: " + seen.size(), true, seen.size() <= MOST_OBJECTS);
        Checks.same("fields and elements: " + elements, true, elements <= MOST_ELEMENTS);
    }

    private static int countElements(Object x, Map<Object, Boolean> seen) throws IllegalAccessException {
        if (x == null || seen.put(x, true) != null) {
            return 0;
        }
        if (x.getClass().isArray()) {
            int count = Array.getLength(x);
            if (x instanceof Object[]) {
                for (Object part : (Object[]) x) {
                    count += countElements(part, seen);
                }
            }
            return count;
        }
        int count = 0;
        for (Field field : x.getClass().getDeclaredFields()) {
            if (!Modifier.isStatic(field.getModifiers())) {
                field.setAccessible(true);
                count++;
                if (!field.getType().isPrimitive()) {
                    count += countElements(field.get(x), seen);
                }
            }
        }
        return count;
    }
}
