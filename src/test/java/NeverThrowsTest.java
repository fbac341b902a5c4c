import java.lang.reflect.Method;
import java.util.Arrays;
import java.util.Comparator;
import java.util.Random;

/** No call ever throws, whatever its arguments, in whatever state; and the same calls give the same answers. */
public final class NeverThrowsTest {
    private static final int[] EDGES = {
        Integer.MIN_VALUE, -1000, -100, -3, -2, -1, 0, 1, 2, 3, 4, 5, 6, 7, 8, 9, 10, 11, 12, 19, 20, 21, 23, 24, 25, 31, 32,
        40, 41, 50, 59, 60, 61, 63, 64, 99, 100, 220, 221, 300, 399, 400, 401, 999, 1000, 4095, 4096, 9999, 10000, 99999,
        100000, 1 << 30, Integer.MAX_VALUE};
    private static final String[] TRACKS = {
        "high 10 5 0 5 10;drag 0;push 100;block 2;", "high 0 10 0;chain 0 to 1 speed 3;dog 0 to 1;",
        "high 1 2 3 4 5 6 7;push 999;drag 0;block 1;block 2;block 3;block 4;block 6;chain 0 to 6 speed 999;chain 2 to 4 speed 0;",
        "high 10 0 10 20;drag 0;push 50;", "high 1 2;block 1;"};
    private static final String[] RULES = {
        "leave 0 if not free 0;", "", "leave 0 if (free 0 or not free 0) and free 1;", "leave 1 if free 0 or free 1;leave 1"};

    public static void main(String[] args) throws ReflectiveOperationException {
        Method[] calls = Arrays.stream(CoasterDay.class.getMethods())
            .filter(m -> m.getDeclaringClass() == CoasterDay.class)
            .sorted(Comparator.comparing(Method::getName)).toArray(Method[]::new);
        Check.promise("7 no call throws");
        for (int seed = 0; seed < 400; seed++) {
            long once = go(calls, seed);
            if (seed % 20 == 0) {
                Check.due("seed " + seed + " again", go(calls, seed), once);
            }
        }
        Check.due("all calls ended", 1, 1);
        Check.end();
    }

    /** All answers of a run of 512 calls, mixed into one number. */
    private static long go(Method[] calls, int seed) throws ReflectiveOperationException {
        Random random = new Random(seed);
        CoasterDay x = new CoasterDay();
        long mixed = 0;
        for (int k = 0; k < 480; k++) {
            if (random.nextInt(60) == 0) {
                mixed = 31 * mixed + Check.tell(x, 0, TRACKS[random.nextInt(TRACKS.length)]);
                k += 5;
            } else if (random.nextInt(60) == 0) {
                mixed = 31 * mixed + Check.tell(x, 1, RULES[random.nextInt(RULES.length)]);
                k += 3;
            } else {
                mixed = 31 * mixed + call(x, calls[random.nextInt(calls.length)], random);
            }
        }
        return mixed;
    }

    private static long call(CoasterDay x, Method m, Random random) throws ReflectiveOperationException {
        Class<?>[] types = m.getParameterTypes();
        Object[] with = new Object[types.length];
        int from = random.nextInt(EDGES.length);
        int width = 1 + random.nextInt(12);
        for (int i = 0; i < types.length; i++) {
            int edge = EDGES[random.nextInt(4) == 0 ? random.nextInt(EDGES.length) : Math.min(EDGES.length - 1, from + random.nextInt(width))];
            if (types[i] == boolean.class) {
                with[i] = random.nextBoolean();
            } else if (types[i] == long.class) {
                with[i] = random.nextLong();
            } else {
                with[i] = edge;
            }
        }
        return ((Number) m.invoke(x, with)).longValue();
    }
}
