import com.sun.management.ThreadMXBean;
import java.lang.management.ManagementFactory;
import java.lang.reflect.Array;
import java.lang.reflect.Field;
import java.lang.reflect.Modifier;
import java.util.ArrayDeque;
import java.util.Deque;
import java.util.IdentityHashMap;
import java.util.Map;

/** The room: an object is small, and its calls make nothing new. */
public final class RoomTest {
    private static final int OBJECTS = 500;

    /** Each of some ninety calls: an object is used for no more than 512. */
    private static final int ROUNDS = 4;

    /** one plain ab 1 2;list c ab;known 0 3;one twin b 3 4; */
    private static final long[] TEXT = {0x6f6e6520706c6169L, 0x6e20616220312032L, 0x3b6c697374206320L,
        0x61623b6b6e6f776eL, 0x203020333b6f6e65L, 0x207477696e206220L, 0x3320343b20202020L};

    private static long kept = 0;

    public static void main(String[] args) throws IllegalAccessException {
        size();
        calls();
        Check.finish("RoomTest");
    }

    private static void size() throws IllegalAccessException {
        Map<Object, Boolean> seen = new IdentityHashMap<>();
        Deque<Object> open = new ArrayDeque<>();
        long cells = 0;
        open.add(new SameMan());
        while (!open.isEmpty()) {
            Object next = open.remove();
            if (seen.put(next, true) == null) {
                cells += next.getClass().isArray() ? elements(next, open) : fields(next, open);
            }
        }
        System.out.println("an object: " + seen.size() + " objects and arrays, " + cells + " fields and elements");
        Check.due("fewer than 500 objects and arrays", seen.size() < 500 ? 1 : 0, 1);
        Check.due("fewer than 25000 fields and elements", cells < 25000 ? 1 : 0, 1);
    }

    private static int elements(Object array, Deque<Object> open) {
        int length = Array.getLength(array);
        if (!array.getClass().getComponentType().isPrimitive()) {
            for (int i = 0; i < length; i++) {
                open.add(Array.get(array, i));
            }
        }
        return length;
    }

    private static int fields(Object of, Deque<Object> open) throws IllegalAccessException {
        int number = 0;
        for (Field field : of.getClass().getDeclaredFields()) {
            if (!Modifier.isStatic(field.getModifiers())) {
                number++;
                field.setAccessible(true);
                if (!field.getType().isPrimitive()) {
                    open.add(field.get(of));
                }
            }
        }
        return number;
    }

    private static void calls() {
        ThreadMXBean threads = (ThreadMXBean) ManagementFactory.getThreadMXBean();
        SameMan[] men = new SameMan[OBJECTS];
        for (int i = 0; i < OBJECTS; i++) {
            men[i] = new SameMan();
        }
        every(new SameMan());
        long before = threads.getCurrentThreadAllocatedBytes();
        for (int i = 0; i < OBJECTS * ROUNDS; i++) {
            every(men[i % OBJECTS]);
        }
        long made = threads.getCurrentThreadAllocatedBytes() - before;
        // one object of 16 bytes a round would be twice of this
        Check.due("calls made " + made + " bytes", made < 8L * OBJECTS * ROUNDS ? 1 : 0, 1);
        Check.due("something was answered", kept != 0 ? 1 : 0, 1);
    }

    private static void every(SameMan x) {
        int all = 0;
        for (long v : TEXT) {
            all += x.feed(v);
        }
        all += x.end(52) + x.text() + x.fault();
        for (int what = 0; what < 4; what++) {
            all += x.rule(what) + x.one(0, what) + x.listed(0, what) + x.count(what) + x.solve(0, 1, what);
        }
        all += x.worth(1) + x.letter(1, 3) + x.law(1) + x.fee(2) + x.debt(0, 4) + x.wealth(0, 5) + x.become(1, 0);
        all += x.bear(0) + x.sum(0) + x.person(0) + x.persons() + x.lone() + x.owes(0) + x.has(0) + x.votes();
        all += x.heirs(3) + x.change(0, 7, 0) + x.change(0, 7, 10) + x.rid(0, 0) + x.call(0) + x.match(0) + x.match(1);
        all += x.crowd(2, 0) + x.crowd(2, 1) + x.part(0) + x.know(0, 3) + x.forget(1) + x.year(3, 20, 0) + x.year(3, 20, 1);
        all += x.keep(0) + x.wed(0, 1) + x.back(0) + x.sheet(0, 1, 40) + x.lay(0, 1, 4) + x.read(0, 1, 0, 20) + x.torn();
        kept += all;
    }
}
