import com.sun.management.ThreadMXBean;
import java.lang.management.ManagementFactory;
import java.lang.reflect.Array;
import java.lang.reflect.Field;
import java.lang.reflect.Modifier;
import java.util.IdentityHashMap;
import java.util.Map;

/** All calls of a run live in one room: an object is small, and its dearest calls make nothing new. */
public final class RoomTest {
    private static final Check CHECK = new Check();

    public static void main(String[] args) throws Exception {
        LateMoons x = fullWorld();
        dearestCalls(x);
        callsMakeNothing(x);
        objectIsSmall(x);
        CHECK.end();
    }

    /** Forty sights of one moon and eight tables of three terms. */
    private static LateMoons fullWorld() {
        LateMoons x = new LateMoons();
        x.moon(0, 100, 8000, 9, 5);
        x.set(3, 0);
        x.guess(0, 90, 8000);
        for (int i = 0; i < 40; i++) {
            x.sight(0, i, 0, 8000 * i + 100 + i * 37 % 60);
        }
        for (String text : new String[] {"e+o+l", "l+o+e", "o+p1+e", "p1+p2+l", "p2+e+o", "e+l+p3", "p1+p3+p2", "l+e+p1"}) {
            Check.table(x, text);
        }
        for (int i = 0; i < 30; i++) {
            x.send(i, 0, 1);
        }
        return x;
    }

    private static long dearestCalls(LateMoons x) {
        long sum = x.turn(0, 1, 0) + x.watch(0, 0, 11, 4) + x.parts(0, 1, 0, 0, 999) + x.allMoons(0);
        sum += x.best(0, (1L << 40) - 1) + x.worth(0, 1, 0, 1023) + x.season(0, 0, 1023) + x.foretold(1, 0, 5, 1023, true);
        sum += x.image() + x.restore() + x.feed(3, 0x6f2b65) + x.table() + x.put(1) + x.read() + x.apart(0, 1, 0);
        sum += x.rhythm(0, 1, 2) + x.left(0, 1, 1023) + x.fit(0, 0, 1023, 0) + x.has(0, 5) + x.count(6) + x.right(5);
        return sum;
    }

    private static void callsMakeNothing(LateMoons x) {
        ThreadMXBean threads = (ThreadMXBean) ManagementFactory.getThreadMXBean();
        long id = Thread.currentThread().getId();
        threads.getThreadAllocatedBytes(id);
        long before = threads.getThreadAllocatedBytes(id);
        for (int i = 0; i < 20; i++) {
            dearestCalls(x);
        }
        long made = threads.getThreadAllocatedBytes(id) - before;
        System.out.println("bytes made by 420 calls: " + made);
        // the measuring itself may make a little
        CHECK.due("calls make nothing", made > 4096 ? made : 0, 0);
    }

    private static void objectIsSmall(LateMoons x) throws Exception {
        Map<Object, Boolean> seen = new IdentityHashMap<>();
        long elements = count(x, seen);
        System.out.println("objects: " + seen.size() + ", fields and elements: " + elements);
        CHECK.due("objects and arrays", seen.size() > 200 ? seen.size() : 0, 0);
        CHECK.due("fields and elements", elements > 8000 ? elements : 0, 0);
    }

    private static long count(Object o, Map<Object, Boolean> seen) throws Exception {
        if (o == null || seen.put(o, true) != null) {
            return 0;
        }
        long n = 0;
        if (o.getClass().isArray()) {
            n += Array.getLength(o);
            for (int i = 0; !o.getClass().getComponentType().isPrimitive() && i < Array.getLength(o); i++) {
                n += count(Array.get(o, i), seen);
            }
            return n;
        }
        for (Field field : o.getClass().getDeclaredFields()) {
            if (!Modifier.isStatic(field.getModifiers())) {
                n++;
                field.setAccessible(true);
                n += field.getType().isPrimitive() ? 0 : count(field.get(o), seen);
            }
        }
        return n;
    }
}
