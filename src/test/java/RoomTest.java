import java.lang.management.ManagementFactory;
import java.lang.reflect.Array;
import java.lang.reflect.Field;
import java.lang.reflect.Modifier;
import java.math.BigInteger;
import java.util.IdentityHashMap;
import java.util.Map;

/** All calls of a run share one room: an object is small, and calls that do not throw make nothing. */
public final class RoomTest {
    private static final int MOST_ELEMENTS = 7_300_000 / 512;
    private static final int MOST_OBJECTS = 600_000 / 512;

    private final Map<Object, Boolean> seen = new IdentityHashMap<>();
    private long elements = 0;

    private RoomTest() {
    }

    public static void main(String[] arguments) throws IllegalAccessException {
        RoomTest room = new RoomTest();
        room.count(new WholeDesk());
        Check.that("an object has " + room.elements + " fields and elements", room.elements <= MOST_ELEMENTS);
        Check.that("an object has " + room.seen.size() + " parts", room.seen.size() <= MOST_OBJECTS);
        callsMakeNothing();
        Check.end("RoomTest");
    }

    private void count(Object object) throws IllegalAccessException {
        if (object == null || seen.put(object, true) != null) {
            return;
        }
        if (object.getClass().isArray()) {
            elements += Array.getLength(object);
            if (object instanceof Object[] parts) {
                for (Object part : parts) {
                    count(part);
                }
            }
            return;
        }
        for (Field field : object.getClass().getDeclaredFields()) {
            if (!Modifier.isStatic(field.getModifiers())) {
                elements++;
                field.setAccessible(true);
                if (!field.getType().isPrimitive()) {
                    count(field.get(object));
                }
            }
        }
    }

    private static void callsMakeNothing() {
        Desk desk = new Desk();
        desk.set(0, BigInteger.ONE.shiftLeft(2048).subtract(BigInteger.valueOf(5)));
        desk.set(1, BigInteger.valueOf(3).pow(1290));
        desk.set(2, BigInteger.valueOf(-7).pow(700));
        everyCall(desk.desk);
        long before = allocated();
        everyCall(desk.desk);
        long made = allocated() - before;
        Check.that("the calls made " + made + " bytes", made < 4096);
    }

    private static void everyCall(WholeDesk desk) {
        desk.write(8, 0x3132333435363738L);
        desk.read(3, 16);
        desk.write(1, 0x31);
        desk.wipe();
        desk.put(4, Long.MIN_VALUE);
        desk.add(0, 1, 5, true);
        desk.multiply(3, 2, 5);
        desk.divide(0, 3, 5, 6);
        desk.modulo(2, 1, 5);
        desk.power(4, 32, 5);
        desk.root(0, 17, 5);
        desk.common(0, 1, 5);
        desk.inverse(2, 1, 5);
        desk.powerModulo(0, 2, 1, 5);
        desk.combine(0, 2, 5, 3);
        desk.shift(2, -99, 5);
        desk.bit(2, 1000);
        desk.compare(0, 1);
        desk.told(2, 3);
        desk.written(0, 10);
        desk.text(9);
    }

    private static long allocated() {
        com.sun.management.ThreadMXBean threads = (com.sun.management.ThreadMXBean) ManagementFactory.getThreadMXBean();
        return threads.getThreadAllocatedBytes(Thread.currentThread().getId());
    }
}
