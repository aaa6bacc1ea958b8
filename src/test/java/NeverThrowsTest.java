import java.lang.reflect.InvocationTargetException;
import java.lang.reflect.Method;
import java.lang.reflect.Modifier;
import java.util.List;
import java.util.NoSuchElementException;
import java.util.Random;
import java.util.function.Supplier;

/**
 * No call throws but glove, which throws a NoSuchElementException: every method of the face with numbers about
 * the edges that the document names and the ends of int, in states from a new object to a full one.
 */
public final class NeverThrowsTest extends Check {
    private static final int[] EDGES = {Integer.MIN_VALUE, -1000001, -1000000, -999999, -241, -61, -21, -20, -11, -10, -9, -3, -2, -1,
        0, 1, 2, 3, 4, 5, 6, 7, 8, 9, 10, 11, 30, 31, 39, 40, 41, 50, 51, 59, 60, 61, 98, 99, 100, 101, 127, 128, 239, 240, 241,
        255, 256, 511, 512, 998, 999, 1000, 999999, 1000000, 0x673b6768, Integer.MAX_VALUE - 1, Integer.MAX_VALUE};
    private static final int CALLS = 400;
    private final Random random;
    private final Supplier<GloveHouses> state;
    private GloveHouses x;
    private int calls;

    private NeverThrowsTest(Supplier<GloveHouses> state, long seed) {
        this.state = state;
        random = new Random(seed);
        calls = CALLS;
    }

    public static void main(String[] args) throws IllegalAccessException {
        List<Supplier<GloveHouses>> states = List.of(GloveHouses::new, States::withoutPeace, States::fresh, States::busy,
            States::poor, States::undone, States::full);
        for (int i = 0; i < states.size(); i++) {
            says("A call of the face throws exactly what and where the document says: state " + i);
            NeverThrowsTest test = new NeverThrowsTest(states.get(i), i);
            for (Method m : GloveHouses.class.getDeclaredMethods()) {
                if (Modifier.isPublic(m.getModifiers())) test.callAll(m);
            }
        }
        closes();
    }

    /** One number after the other at its edges, the others drawn; each pair of edges for two numbers. */
    private void callAll(Method m) throws IllegalAccessException {
        int n = m.getParameterCount();
        for (int a : EDGES) {
            for (int b : EDGES) {
                Object[] args = new Object[n];
                for (int i = 0; i < n; i++) args[i] = drawn(m.getParameterTypes()[i]);
                int first = n == 0 ? 0 : random.nextInt(n);
                int second = n == 0 ? 0 : random.nextInt(n);
                if (n == 2) first = 0;
                if (n == 2) second = 1;
                if (n > 0 && args[first] instanceof Integer) args[first] = a;
                if (n > 0 && args[second] instanceof Integer) args[second] = b;
                call(m, args);
                if (n == 0 || n == 1) break;
            }
        }
    }

    private Object drawn(Class<?> type) {
        if (type == boolean.class) return random.nextBoolean();
        if (type == long.class) return random.nextBoolean() ? random.nextLong() : (long) EDGES[random.nextInt(EDGES.length)];
        return random.nextBoolean() ? random.nextInt(7) : EDGES[random.nextInt(EDGES.length)];
    }

    private void call(Method m, Object[] args) throws IllegalAccessException {
        if (calls >= CALLS) {
            x = state.get();
            calls = 0;
        }
        calls++;
        boolean fine = true;
        try {
            m.invoke(x, args);
        } catch (InvocationTargetException e) {
            fine = m.getName().equals("glove") && e.getCause() instanceof NoSuchElementException;
            if (!fine) System.out.println(e.getCause());
        }
        due(m.getName() + java.util.Arrays.toString(args) + " throws nothing else", fine, true);
    }
}
