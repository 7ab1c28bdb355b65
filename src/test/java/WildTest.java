import java.lang.reflect.InvocationTargetException;
import java.lang.reflect.Method;
import java.util.Random;

/** Any arguments in any state: no call throws, each ends, the same calls give the same answers. */
public final class WildTest {
    private static final int[] EDGES = {0, 1, 2, 3, 4, 5, 6, 7, 8, 9, 10, 11, 12, 13, 20, 21, 24, 25, 32, 39, 40, 59, 60, 61, 69,
        70, 80, 99, 100, 1111, 2121, 3010, 8888, 9999, 10000, 1048575, 1048576, -1, -2, -20, Integer.MAX_VALUE, Integer.MIN_VALUE,
        Integer.MIN_VALUE + 1, Integer.MAX_VALUE - 1};
    private static final int RUNS = 300;
    private static final int CALLS = 512;

    public static void main(String[] args) throws IllegalAccessException {
        Method[] face = GorgeRocks.class.getDeclaredMethods();
        java.util.Arrays.sort(face, java.util.Comparator.comparing(Method::getName));
        for (int run = 0; run < RUNS; run++) {
            if (answersOf(face, run) != answersOf(face, run)) {
                System.out.println("run " + run + " answered otherwise the second time");
                System.exit(1);
            }
        }
        System.out.println(RUNS + " wild runs of " + CALLS + " calls ended");
    }

    private static long answersOf(Method[] face, int run) throws IllegalAccessException {
        Random random = new Random(run);
        GorgeRocks x = new GorgeRocks();
        long sum = 0;
        for (int i = 0; i < CALLS; i++) {
            Method method = face[random.nextInt(face.length)];
            if (!java.lang.reflect.Modifier.isPublic(method.getModifiers())) {
                continue;
            }
            Object[] given = new Object[method.getParameterCount()];
            for (int k = 0; k < given.length; k++) {
                boolean wide = method.getParameterTypes()[k] == long.class;
                int value = random.nextInt(20) == 0 ? random.nextInt() : EDGES[random.nextInt(random.nextInt(EDGES.length) + 1)];
                given[k] = wide ? (Object) random.nextLong() : (Object) value;
            }
            sum = sum * 31 + answerOf(method, x, given, run, i);
        }
        return sum;
    }

    private static int answerOf(Method method, GorgeRocks x, Object[] given, int run, int i) throws IllegalAccessException {
        try {
            return (Integer) method.invoke(x, given);
        } catch (InvocationTargetException thrown) {
            System.out.println("run " + run + ", call " + i + ": " + method + java.util.Arrays.toString(given));
            thrown.getCause().printStackTrace(System.out);
            System.exit(1);
            return 0;
        }
    }
}
