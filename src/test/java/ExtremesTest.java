import java.lang.reflect.InvocationTargetException;
import java.lang.reflect.Method;
import java.lang.reflect.Modifier;

/** Every call with arguments at and beyond every bound, in several states: none throws, and each refusal counts once. */
public final class ExtremesTest {
    private static final int[] MANY = {Integer.MIN_VALUE, -2, -1, 0, 1, 2, 3, 4, 5, 6, 7, 8, 9, 10, 26, 27, 39, 40, 41, 63, 64, 65, 999, 1000, Integer.MAX_VALUE};
    private static final int[] FEW = {Integer.MIN_VALUE, -1, 0, 1, 5, 6, 7, 8, 40, 41, Integer.MAX_VALUE};
    private static final long[] SETS = {Long.MIN_VALUE, -2, -1, 0, 1, 255, 256, 134217727, 134217728, 253440, Long.MAX_VALUE};
    private static final int[] SIZES = {3, 4, 2, 3, 4, 3};
    private static final int CALLS_OF_ONE = 30;

    private static int wrong = 0;
    private static long calls = 0;
    private static MouldThatComesOff object;
    private static int left = 0;

    public static void main(String[] args) throws IllegalAccessException {
        for (int state = 0; state < SIZES.length; state++) {
            for (Method m : MouldThatComesOff.class.getDeclaredMethods()) {
                if (Modifier.isPublic(m.getModifiers())) everyArgument(m, state);
            }
        }
        System.out.println(calls + " calls at the bounds, " + wrong + " faults");
        if (wrong != 0) System.exit(1);
    }

    private static void everyArgument(Method m, int state) throws IllegalAccessException {
        Class<?>[] types = m.getParameterTypes();
        int[] ints = types.length > 3 ? FEW : MANY;
        long count = 1;
        for (Class<?> t : types) count *= t == long.class ? SETS.length : t == boolean.class ? 2 : ints.length;
        left = 0;
        for (long k = 0; k < count && wrong < 20; k++) {
            Object[] values = new Object[types.length];
            long rest = k;
            for (int i = 0; i < types.length; i++) {
                int many = types[i] == long.class ? SETS.length : types[i] == boolean.class ? 2 : ints.length;
                int at = (int) (rest % many);
                rest /= many;
                if (types[i] == long.class) values[i] = SETS[at];
                else if (types[i] == boolean.class) values[i] = at == 1;
                else values[i] = ints[at];
            }
            if (left == 0) {
                object = stateOf(state);
                left = CALLS_OF_ONE;
            }
            left--;
            oneCall(m, values);
        }
    }

    private static void oneCall(Method m, Object[] values) throws IllegalAccessException {
        calls++;
        int[] before = refusals();
        long answer;
        try {
            answer = ((Number) m.invoke(object, values)).longValue();
        } catch (InvocationTargetException e) {
            fault(m, values, "threw " + e.getCause());
            left = 0;
            return;
        }
        int[] after = refusals();
        int more = 0;
        int by = 0;
        for (int k = 0; k < 5; k++) {
            more += after[k] - before[k];
            if (after[k] != before[k]) by = -2 - k;
        }
        if (more < 0 || more > 1) fault(m, values, "counted " + more + " refusals");
        boolean reads = m.getName().equals("read");
        if (more == 1 && answer != by && !(reads && answer <= -20)) fault(m, values, "answered " + answer + " and counted " + by);
        if (more == 0 && m.getReturnType() == int.class && answer < -1) fault(m, values, "answered " + answer + " and counted nothing");
    }

    private static int[] refusals() {
        int[] r = new int[5];
        for (int k = 0; k < 5; k++) r[k] = object.status(12 + k);
        return r;
    }

    private static void fault(Method m, Object[] values, String what) {
        wrong++;
        System.out.println(m.getName() + java.util.Arrays.toString(values) + " " + what);
    }

    private static MouldThatComesOff stateOf(int state) {
        MouldThatComesOff x = new MouldThatComesOff();
        if (state == 0) return x;
        x.size(SIZES[state]);
        x.solid(state % 2 == 0 ? 0x0000_0660_0FF0_0660L : 253440L, true);
        for (int p = 0; p < (state > 3 ? 8 : state); p++) x.piece(7L << 7 * p);
        for (int s = 0; s < 5; s++) x.move(s, 1 + s, s, (s + state) % 6);
        x.row(5, state % 5, 40);
        x.row(6, state % 5, 0);
        x.image();
        if (state > 2) x.step();
        int bytes = state == 5 ? 248 : 3 * state;
        for (int k = 0; k < bytes; k += 4) x.feed(0x70696563, 4);
        if (state == 4) x.solid(-1L, true);
        return x;
    }
}
