import java.lang.management.ManagementFactory;
import java.lang.reflect.Array;
import java.lang.reflect.Field;
import java.lang.reflect.Modifier;
import java.util.IdentityHashMap;

/** The room that a run takes: small objects, and no object made by a call. */
public final class RoomTest {
    private static final String TEXT = "A36274L003L152L234L319L146L002L117L129";
    private static final int WARM = 30;

    private static final Checks checks = new Checks();
    private static final IdentityHashMap<Object, Boolean> seen = new IdentityHashMap<>();
    private static int cells = 0;
    private static long sink = 0;

    public static void main(String[] args) throws ReflectiveOperationException {
        count(new TenArrows());
        // A room has 600,000 objects and 7.3 million cells: more than 10,000 objects of the face fit in.
        checks.isTrue("objects of one: " + seen.size(), seen.size() <= 40);
        checks.isTrue("cells of one: " + cells, cells <= 600);
        for (int i = 0; i < WARM; i++) {
            allCalls(new TenArrows());
        }
        var threads = (com.sun.management.ThreadMXBean) ManagementFactory.getThreadMXBean();
        long least = Long.MAX_VALUE;
        for (int i = 0; i < WARM; i++) {
            TenArrows x = new TenArrows();
            long before = threads.getCurrentThreadAllocatedBytes();
            long between = threads.getCurrentThreadAllocatedBytes();
            allCalls(x);
            long after = threads.getCurrentThreadAllocatedBytes();
            least = Math.min(least, after - between - (between - before));
        }
        checks.isTrue("bytes made by all calls: " + least, least <= 0);
        checks.isTrue("calls were made", sink != 0);
        checks.finish("RoomTest");
    }

    private static void count(Object one) throws ReflectiveOperationException {
        if (one == null || seen.put(one, true) != null) {
            return;
        }
        if (one.getClass().isArray()) {
            cells += Array.getLength(one);
            return;
        }
        for (Field field : one.getClass().getDeclaredFields()) {
            if (!Modifier.isStatic(field.getModifiers())) {
                cells++;
                field.setAccessible(true);
                if (!field.getType().isPrimitive()) {
                    count(field.get(one));
                }
            }
        }
    }

    private static void allCalls(TenArrows x) {
        sink += x.wipe();
        for (int i = 0; i < TEXT.length(); i++) {
            sink += x.write(TEXT.charAt(i));
        }
        sink += x.fault() + x.line() + x.about(3) + x.keep(0);
        for (int i = 0; i < 4; i++) {
            sink += x.lay() + x.lose() + x.find(i) + x.doubled() + x.change() + x.stretch(1) + x.knot() + x.clear();
        }
        sink += x.undo() + x.stage(1, 3) + x.byBook() + x.truly() + x.off(3, 5) + x.ends(4, 0) + x.step(9);
        sink += x.share(1, 4, true) + x.where(1, false) + x.back(5) + x.shows(1, 3) + x.soonest();
        sink += x.test(1, 1) + x.changes(0) + x.changes(1) + x.changes(2) + x.untest();
        sink += x.rests(4, 0) + x.rests(4, 1) + x.chance(4, 2, true) + x.seed(3) + x.days(20) + x.again(0);
    }
}
