import java.lang.reflect.InvocationTargetException;
import java.lang.reflect.Method;
import java.lang.reflect.Modifier;
import java.util.Arrays;

/**
 * Every call with all its arguments at, beside and far outside of their limits in every combination, on benches in
 * four states: none may throw, and all answers must be those of PlainBench.
 */
public final class GridTest {
    private static final Integer[] MANY = {Integer.MIN_VALUE, -64, -2, -1, 0, 1, 2, 3, 4, 5, 6, 7, 8, 9, 10, 31, 32, 33, 38,
        39, 40, 41, 63, 64, 100, 101, 255, 256, 511, 512, 1000, 1001, 1 << 29, 1 << 30, Integer.MAX_VALUE};
    private static final Integer[] FEW = {Integer.MIN_VALUE, -1, 0, 1, 3, 7, 8, 9, 10, 100, 101, 511, 512, 1000, 1001,
        Integer.MAX_VALUE};
    private static final Long[] LONGS = {Long.MIN_VALUE, -1L, 0L, 1L, 0b110_101_011L, (1L << 27) - 1, 1L << 62, Long.MAX_VALUE};
    private static final Boolean[] BOTH = {false, true};
    /** An object is called at most 512 times. */
    private static final int MOST_CALLS = 400;
    private static final Object[][][] STATES = {
        {},
        {{"parts", 3}, {"part", 0, 2, 3, 5}, {"part", 1, 4, 1, 7}, {"part", 2, 3, 6, 11}, {"single", 0}, {"single", 1},
            {"row", 0, 1}, {"some", 7, 0L, 0, 2}, {"system", 3}, {"see", 2, 0}, {"order", 1}, {"run", 2, 2}},
        {{"parts", 4}, {"part", 1, 9, 9, 1000}, {"single", 1}, {"single", 3}, {"side", 0, 1}, {"ratios", true, false},
            {"see", 1, 1}},
        {{"parts", 9}, {"single", 8}, {"some", 511, 0L, 0, 0}, {"dual", 1}, {"system", 0}, {"order", 8}, {"see", 8, 1},
            {"run", 0, 511}}};

    private final Checks checks = new Checks();
    private LookBench x;
    private PlainBench y;
    private int calls;
    private Object[][] state;

    public static void main(String[] args) throws ReflectiveOperationException {
        GridTest test = new GridTest();
        for (Object[][] state : STATES) {
            test.state = state;
            for (Method m : LookBench.class.getDeclaredMethods()) {
                if (Modifier.isPublic(m.getModifiers()) && !test.checks.anyWrong()) {
                    test.fresh();
                    test.grid(m, new Object[m.getParameterCount()], 0);
                }
            }
        }
        test.checks.end();
    }

    private void fresh() throws ReflectiveOperationException {
        x = new LookBench();
        y = new PlainBench();
        calls = 0;
        checks.at("a state of " + state.length + " calls");
        for (Object[] row : state) {
            for (Method m : LookBench.class.getDeclaredMethods()) {
                if (m.getName().equals(row[0])) {
                    both(m, Arrays.copyOfRange(row, 1, row.length));
                }
            }
        }
    }

    private void grid(Method m, Object[] arguments, int at) throws ReflectiveOperationException {
        if (at == arguments.length) {
            if (calls >= MOST_CALLS) {
                fresh();
            }
            both(m, arguments);
            return;
        }
        Class<?> type = m.getParameterTypes()[at];
        Object[] values = type == long.class ? LONGS : type == boolean.class ? BOTH : arguments.length > 2 ? FEW : MANY;
        for (Object value : values) {
            arguments[at] = value;
            grid(m, arguments, at + 1);
        }
    }

    private void both(Method m, Object[] arguments) throws ReflectiveOperationException {
        calls++;
        Method plain = PlainBench.class.getDeclaredMethod(m.getName(), m.getParameterTypes());
        String call = m.getName() + Arrays.toString(arguments);
        try {
            Object got = m.invoke(x, arguments);
            checks.due(call, asNumber(got), asNumber(plain.invoke(y, arguments)));
        } catch (InvocationTargetException thrown) {
            checks.due(call + " threw " + thrown.getCause(), 1, 0);
        }
    }

    private static long asNumber(Object answer) {
        return answer instanceof Boolean b ? (b ? 1 : 0) : ((Number) answer).longValue();
    }
}
