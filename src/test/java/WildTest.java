import java.lang.management.ManagementFactory;
import java.lang.reflect.InvocationTargetException;
import java.lang.reflect.Method;
import java.lang.reflect.Modifier;
import java.util.Arrays;
import java.util.Comparator;
import java.util.Random;

/** No call may throw, for any arguments in any state; and a run of dear calls makes next to nothing. */
public final class WildTest {
    private static final int[] EDGES = {Integer.MIN_VALUE, Integer.MIN_VALUE + 1, -100000000, -10000, -33, -32, -31, -11,
        -10, -2, -1, 0, 1, 2, 3, 4, 5, 7, 8, 10, 11, 13, 14, 15, 16, 19, 20, 21, 23, 31, 32, 33, 60, 61, 80, 83, 84, 90,
        1000, 1023, 5000, 9999, 10000, 16383, 99999, 100000, 100001, 1048575, 1048576, 99999999, 100000000,
        1000000000, Integer.MAX_VALUE - 1, Integer.MAX_VALUE};

    public static void main(String[] args) throws IllegalAccessException {
        Method[] face = Arrays.stream(LostParcels.class.getDeclaredMethods())
                .filter(m -> Modifier.isPublic(m.getModifiers())).toArray(Method[]::new);
        Arrays.sort(face, Comparator.comparing(Method::getName));
        edgesOnANewObject(face);
        for (int seed = 0; seed < 60; seed++) {
            longRun(face, new Random(seed));
        }
        dearRun();
        long before = allocated();
        dearRun();
        long made = allocated() - before;
        System.out.println("a run of 505 dear calls made " + made + " bytes");
        if (made > 200000) {
            System.out.println("that is too much");
            System.exit(1);
        }
    }

    private static void edgesOnANewObject(Method[] face) throws IllegalAccessException {
        LostParcels x = new LostParcels();
        for (Method act : face) {
            for (int edge : EDGES) {
                Object[] arguments = new Object[act.getParameterCount()];
                Arrays.fill(arguments, edge);
                call(x, act, arguments);
            }
        }
    }

    /** Far more calls than an object is promised for: answers are free then, but it must not fail. */
    private static void longRun(Method[] face, Random random) throws IllegalAccessException {
        LostParcels x = new LostParcels();
        fill(x);
        for (int i = 0; i < 4000; i++) {
            Method act = face[random.nextInt(face.length)];
            Object[] arguments = new Object[act.getParameterCount()];
            for (int k = 0; k < arguments.length; k++) {
                int kind = random.nextInt(8);
                arguments[k] = kind == 0 ? random.nextInt() : kind < 5 ? random.nextInt(20)
                        : EDGES[random.nextInt(EDGES.length)];
            }
            call(x, act, arguments);
        }
    }

    private static void call(LostParcels x, Method act, Object[] arguments) throws IllegalAccessException {
        try {
            act.invoke(x, arguments);
        } catch (InvocationTargetException e) {
            System.out.println(act.getName() + Arrays.toString(arguments) + " threw " + e.getCause());
            System.exit(1);
        }
    }

    private static void fill(LostParcels x) {
        x.law(0, 0);
        for (int i = 0; i < 20; i++) {
            x.thing(0, 0, 100 + i, i, 1);
        }
        for (int i = 0; i < 8; i++) {
            x.seeker(0);
        }
        for (int i = 0; i < 16; i++) {
            x.address(11111111, 1);
        }
        for (int i = 0; i < 60; i++) {
            x.sorted(i % 6, i % 2);
        }
    }

    /** 105 calls to fill it and 50 times 8, as many as an object is meant for. */
    private static long dearRun() {
        LostParcels x = new LostParcels();
        fill(x);
        long sum = 0;
        for (int i = 0; i < 50; i++) {
            x.day(i);
            sum += x.answer(0, 0, 1) + x.back(0) + x.match(-1) + x.lots(1023, 0, 10, 1) + x.burst(16383, 700, 5)
                    + x.likely(0, 83, 9) + x.share(0, 0, 83);
        }
        return sum;
    }

    private static long allocated() {
        return ((com.sun.management.ThreadMXBean) ManagementFactory.getThreadMXBean()).getCurrentThreadAllocatedBytes();
    }
}
