import java.lang.management.ManagementFactory;
import java.lang.reflect.Array;
import java.lang.reflect.Field;
import java.lang.reflect.Modifier;
import java.util.Collections;
import java.util.IdentityHashMap;
import java.util.Set;

/** All calls of a run live in one room: an object is small, and no call makes anything. */
public final class RoomTest {
    private static final Check CHECK = new Check("RoomTest");
    private static final int MOST_OBJECTS = 80;
    private static final int MOST_ELEMENTS = 9000;

    public static void main(String[] args) throws IllegalAccessException {
        Set<Object> seen = Collections.newSetFromMap(new IdentityHashMap<>());
        long elements = counts(new BentQuarters(), seen);
        System.out.println("RoomTest: " + seen.size() + " objects, " + elements + " fields and elements");
        CHECK.holds("objects", seen.size() <= MOST_OBJECTS);
        CHECK.holds("elements", elements <= MOST_ELEMENTS);
        made();
        CHECK.ends();
    }

    private static long counts(Object one, Set<Object> seen) throws IllegalAccessException {
        if (one == null || !seen.add(one)) {
            return 0;
        }
        if (one.getClass().isArray()) {
            long elements = Array.getLength(one);
            if (!one.getClass().getComponentType().isPrimitive()) {
                for (Object part : (Object[]) one) {
                    elements += counts(part, seen);
                }
            }
            return elements;
        }
        long fields = 0;
        for (Field f : one.getClass().getDeclaredFields()) {
            if (!Modifier.isStatic(f.getModifiers())) {
                fields++;
                f.setAccessible(true);
                fields += f.getType().isPrimitive() ? 0 : counts(f.get(one), seen);
            }
        }
        return fields;
    }

    private static void made() {
        com.sun.management.ThreadMXBean threads = (com.sun.management.ThreadMXBean) ManagementFactory.getThreadMXBean();
        long id = Thread.currentThread().getId();
        BentQuarters x = new BentQuarters();
        long sum = calls(x);
        threads.getThreadAllocatedBytes(id);
        long before = threads.getThreadAllocatedBytes(id);
        for (int k = 0; k < 100; k++) {
            sum += calls(x);
        }
        long made = threads.getThreadAllocatedBytes(id) - before;
        CHECK.holds("calls make nothing, made " + made + " bytes (" + sum + ")", made < 4096);
    }

    private static long calls(BentQuarters x) {
        long sum = 0;
        for (int t = 0; t < 13; t++) {
            sum += x.quarter(20 + t) + x.bent(t) + x.shared(t);
        }
        for (int y = 0; y < 4; y++) {
            sum += x.total(y, 100 + 10 * y) + x.price(y) + x.year(y, 1) + x.least();
        }
        sum += x.publishes() + x.freezes(0, 1) + x.limits(2) + x.form(1) + x.others() + x.farthest() + x.digest();
        sum += x.clear() + x.type('q') + x.type('5') + x.type(';') + x.does() + x.type('p') + x.type(';') + x.does();
        sum += x.recalls() + x.back() + x.back() + x.told(1) + x.revised(0) + x.moved(1) + x.stepped(0) + x.count(3);
        return sum + x.form(0) + x.limits(-1) + x.digest();
    }
}
