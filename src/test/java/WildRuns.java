import java.lang.reflect.InvocationTargetException;
import java.lang.reflect.Method;
import java.lang.reflect.Modifier;
import java.util.ArrayList;
import java.util.Comparator;
import java.util.List;
import java.util.Random;

/** Calls with any arguments in any state: none may throw, and each answers a number that a call can answer. */
public final class WildRuns {
    private static final int RUNS = 1500;
    private static final int CALLS = 512;
    private static final int[] EDGES = {Integer.MIN_VALUE, Integer.MIN_VALUE + 1, -129, -128, -10, -9, -2, -1, 7, 8, 11, 12, 15, 16, 24,
        39, 40, 48, 49, 59, 60, 99, 100, 127, 128, 999, 1000, 2000, 2001, 9999, 10000, 14640, 14641, Integer.MAX_VALUE - 1,
        Integer.MAX_VALUE};
    private static final String SIGNS = "kwahsuobc0123456789<=>&|!()";

    public static void main(String[] args) throws IllegalAccessException {
        List<Method> calls = new ArrayList<>();
        for (Method m : FieldPost.class.getDeclaredMethods()) {
            if (Modifier.isPublic(m.getModifiers())) {
                calls.add(m);
            }
        }
        calls.sort(Comparator.comparing(Method::getName));
        int wrong = 0;
        for (int run = 0; run < RUNS; run++) {
            wrong += play(calls, new Random(run), run);
        }
        System.out.println(wrong == 0 ? RUNS + " wild runs are as due" : wrong + " wild runs are not as due");
        if (wrong != 0) {
            System.exit(1);
        }
    }

    private static int play(List<Method> calls, Random random, int run) throws IllegalAccessException {
        FieldPost x = new FieldPost();
        int wildness = 1 + random.nextInt(30);
        for (int i = 0; i < CALLS; i++) {
            Method call = calls.get(random.nextInt(calls.size()));
            Object[] with = arguments(call, random, wildness);
            try {
                int answer = (Integer) call.invoke(x, with);
                if (answer < -80 || answer == -5 || answer == -7 || answer == -8) {
                    System.out.println("run " + run + ", call " + i + ": " + call.getName() + " answered " + answer);
                    return 1;
                }
            } catch (InvocationTargetException thrown) {
                System.out.println("run " + run + ", call " + i + ": " + call.getName() + " threw " + thrown.getCause());
                return 1;
            }
        }
        return 0;
    }

    private static Object[] arguments(Method call, Random random, int wildness) {
        Class<?>[] types = call.getParameterTypes();
        Object[] with = new Object[types.length];
        for (int i = 0; i < types.length; i++) {
            if (types[i] == boolean.class) {
                with[i] = random.nextBoolean();
            } else if (types[i] == long.class) {
                with[i] = random.nextInt(wildness) == 0 ? random.nextLong() : signs(random);
            } else {
                with[i] = number(random, wildness);
            }
        }
        return with;
    }

    private static int number(Random random, int wildness) {
        if (random.nextInt(wildness) == 0) {
            return random.nextInt(4) == 0 ? random.nextInt() : EDGES[random.nextInt(EDGES.length)];
        }
        return random.nextInt(random.nextInt(8) == 0 ? 60 : 4);
    }

    private static long signs(Random random) {
        long bytes = 0;
        for (int i = 0; i < 8; i++) {
            bytes = bytes << 8 | SIGNS.charAt(random.nextInt(SIGNS.length()));
        }
        return bytes;
    }
}
