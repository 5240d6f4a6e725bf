import java.lang.management.ManagementFactory;
import java.lang.reflect.Array;
import java.lang.reflect.Field;
import java.lang.reflect.Modifier;
import java.util.ArrayDeque;
import java.util.Collections;
import java.util.Deque;
import java.util.IdentityHashMap;
import java.util.Set;

/** All calls of a run live in one room: an object is small, and its calls make nothing new. */
public final class RoomTest {
    private static final Check CHECK = new Check("room");

    public static void main(String[] args) throws Exception {
        OneOfEach x = new OneOfEach();
        allCalls(x);
        size(x);
        garbage();
        CHECK.end();
    }

    private static void size(OneOfEach x) throws Exception {
        Set<Object> seen = Collections.newSetFromMap(new IdentityHashMap<>());
        Deque<Object> open = new ArrayDeque<>();
        open.add(x);
        seen.add(x);
        long elements = 0;
        while (!open.isEmpty()) {
            Object o = open.poll();
            if (o.getClass().isArray()) {
                int length = Array.getLength(o);
                elements += length;
                for (int i = 0; i < length && !o.getClass().getComponentType().isPrimitive(); i++) visit(Array.get(o, i), seen, open);
                continue;
            }
            for (Field field : o.getClass().getDeclaredFields()) {
                if (Modifier.isStatic(field.getModifiers())) continue;
                elements++;
                field.setAccessible(true);
                if (!field.getType().isPrimitive()) visit(field.get(o), seen, open);
            }
        }
        System.out.println("room: one object is " + seen.size() + " objects and arrays, " + elements + " fields and elements");
        CHECK.holds("few objects", seen.size() < 200);
        CHECK.holds("few elements", elements < 10_000);
    }

    private static void visit(Object o, Set<Object> seen, Deque<Object> open) {
        if (o != null && seen.add(o)) open.add(o);
    }

    private static void garbage() {
        if (!(ManagementFactory.getThreadMXBean() instanceof com.sun.management.ThreadMXBean bean)) return;
        long id = Thread.currentThread().getId();
        OneOfEach x = new OneOfEach();
        allCalls(x);
        bean.getThreadAllocatedBytes(id);
        long before = bean.getThreadAllocatedBytes(id);
        for (int i = 0; i < 1000; i++) allCalls(x);
        long made = bean.getThreadAllocatedBytes(id) - before;
        System.out.println("room: 1000 rounds of all calls made " + made + " bytes");
        // The measuring itself may make a little.
        CHECK.holds("calls make nothing", made < 20_000);
    }

    private static void allCalls(OneOfEach x) {
        x.image();
        x.restore();
        x.sock(0, 0, 5, 9);
        x.sock(0, 1, 5, 9);
        x.type(0x616c372c61723831L, 8);
        x.socks();
        for (int i = 0; i < 12; i++) {
            x.told(i, i % 8);
            x.alike(i, 0);
            x.fellows(i, 1);
            x.fellow(i);
            x.found(i);
            x.may(i, 7);
            x.whose(i);
            x.bind(0, i);
            x.part(i);
            x.odds(i, 0);
            x.count(i);
        }
        x.pairUp();
        x.fade(0, 3);
        x.set(0, 4);
        x.monday(3, 1);
        x.pairs(1);
        x.worst();
        x.owns(0, 0, 0, 12);
        x.ways();
        x.seldom(0);
        x.lacks(0, 0);
        x.wish(0, 5);
        x.buy();
        x.marks(5, 2, -1);
        x.marks(5, 1, 4);
        x.sheet(0, 1, 16);
        x.item(0, 1, 0, 5);
        x.judge(0, 1, 0);
        x.thrown(0, 1, 0, 8, 999, 1);
        x.worth(0, 1, 0, 8, 999, 1, 0);
        x.drop(0);
    }
}
