import java.lang.management.ManagementFactory;
import java.lang.reflect.Method;
import java.lang.reflect.Modifier;
import java.util.Random;

/** No call throws, for any arguments in any state; and what a run makes fits into its room. */
public final class RoomTest {
    private static final int[] EDGES = {Integer.MIN_VALUE, Integer.MIN_VALUE + 1, -2000000000, -10000, -2, -1, 0, 1, 2,
        3, 4, 5, 6, 7, 8, 16, 40, 59, 60, 63, 64, 65, 100, 300, 364, 365, 900, 3600, 9999, 86399, 86400, 100000,
        1000000, 1999999999, 2000000000, 2000000001, Integer.MAX_VALUE - 1, Integer.MAX_VALUE};

    private RoomTest() {
    }

    public static void main(String[] args) throws Exception {
        Random random = new Random(7);
        Method[] methods = WorkMeter.class.getMethods();
        for (int run = 0; run < 300; run++) {
            WorkMeter x = new WorkMeter();
            for (int k = 0; k < 512; k++) {
                Method m = methods[random.nextInt(methods.length)];
                if (m.getDeclaringClass() == WorkMeter.class && Modifier.isPublic(m.getModifiers())) {
                    callWithEdges(x, m, random);
                }
            }
        }
        dearestCallsMakeNothing();
        Check.finish();
    }

    private static void callWithEdges(WorkMeter x, Method m, Random random) throws Exception {
        Object[] args = new Object[m.getParameterCount()];
        for (int k = 0; k < args.length; k++) {
            boolean truth = m.getParameterTypes()[k] == boolean.class;
            int edge = EDGES[random.nextInt(EDGES.length)];
            args[k] = truth ? (Object) random.nextBoolean() : (Object) edge;
        }
        // What it throws, if it throws, ends the test.
        m.invoke(x, args);
        Check.due(m.getName(), true, true);
    }

    private static void dearestCallsMakeNothing() {
        var threads = (com.sun.management.ThreadMXBean) ManagementFactory.getThreadMXBean();
        WorkMeter x = new WorkMeter();
        long me = Thread.currentThread().getId();
        long sum = 0;
        long before = threads.getThreadAllocatedBytes(me);
        for (int k = 0; k < 512; k++) {
            sum += x.would(900, 0) + x.cheapest(100000, 1) + x.lasts() + x.off(900) + x.again(900);
            sum += x.calendar() + x.bill() + (x.image(k % 2 == 0) ? 1 : 0) + x.best(3, 0);
        }
        long made = threads.getThreadAllocatedBytes(me) - before;
        Check.due("it went on", sum != 0, true);
        Check.due("made " + made + " bytes", made < 100000, true);
    }
}
