import java.lang.reflect.InvocationTargetException;
import java.lang.reflect.Method;
import java.util.ArrayList;
import java.util.Arrays;
import java.util.List;
import java.util.Map;
import java.util.TreeMap;

/** Makes many runs of calls, the same ones each time, on the program and on the model: all answers are alike. */
public final class ModelTest {
    private static final int RUNS = 2500;
    private static final int CALLS = 512;
    private static final int[] WRONG = {-1, -2, 65536, 65537, 1000000, Integer.MIN_VALUE, Integer.MAX_VALUE};

    private static final Map<String, Method> PROGRAM = methods(TwinHashTables.class);
    private static final Map<String, Method> MODEL = methods(Model.class);
    private static final List<String> NAMES = new ArrayList<>(PROGRAM.keySet());

    private static long seed;

    public static void main(String[] args) throws IllegalAccessException {
        if (!PROGRAM.keySet().equals(MODEL.keySet())) {
            System.out.println("the model has other calls than the program");
            System.exit(1);
        }
        int wrongRuns = 0;
        for (int run = 0; run < RUNS && wrongRuns < 5; run++) {
            seed = 1000003L * run + 17;
            if (!isAlike(run)) {
                wrongRuns++;
            }
        }
        System.out.println("ModelTest: " + RUNS + " runs of " + CALLS + " calls, " + wrongRuns + " wrong");
        if (wrongRuns != 0) {
            System.exit(1);
        }
    }

    private static Map<String, Method> methods(Class<?> type) {
        Map<String, Method> found = new TreeMap<>();
        for (Method method : type.getDeclaredMethods()) {
            if (java.lang.reflect.Modifier.isPublic(method.getModifiers())) {
                found.put(method.getName(), method);
            }
        }
        return found;
    }

    private static int below(int bound) {
        seed = seed * 6364136223846793005L + 1442695040888963407L;
        return (int) ((seed >>> 33) % bound);
    }

    private static boolean isAlike(int run) throws IllegalAccessException {
        TwinHashTables program = new TwinHashTables();
        Model model = new Model();
        int[] pool = keyPool(run);
        int puts = 20 + below(60);
        StringBuilder history = new StringBuilder();
        for (int call = 0; call < CALLS; call++) {
            if (below(100) == 0) {
                puts = 5 + below(80);
            }
            String name = chooseCall(puts);
            Object[] arguments = chooseArguments(name, pool, model);
            String got = outcome(PROGRAM.get(name), program, arguments);
            String due = outcome(MODEL.get(name), model, arguments);
            history.append(name).append(Arrays.toString(arguments)).append(' ');
            if (!got.equals(due)) {
                System.out.println("run " + run + ", call " + call + ": " + name + Arrays.toString(arguments)
                    + " answered " + got + ", due is " + due + "; calls: " + history);
                return false;
            }
        }
        return true;
    }

    // Pools of near keys, of keys whose hashes share their lowest bits, and of any keys.
    private static int[] keyPool(int run) {
        int[] pool = new int[10 + below(150)];
        int step = run % 3 == 0 ? 1 : run % 3 == 1 ? 1 << (1 + below(8)) : 1 + below(65535);
        int start = below(1000);
        for (int i = 0; i < pool.length; i++) {
            pool[i] = (start + i * step + (below(8) == 0 ? below(64) : 0)) & 65535;
        }
        if (below(2) == 0) {
            pool[0] = 0;
            pool[1] = 65535;
        }
        return pool;
    }

    private static String chooseCall(int puts) {
        int chance = below(100);
        if (chance < puts) {
            return "put";
        }
        if (chance < puts + (95 - puts) / 2) {
            return "remove";
        }
        if (chance < 99) {
            String name = NAMES.get(below(NAMES.size()));
            boolean rare = name.equals("clear") || name.equals("rebuild") || name.equals("setLoads");
            return rare && below(3) != 0 ? "size" : name;
        }
        return below(3) == 0 ? "rebuild" : "setLoads";
    }

    private static Object[] chooseArguments(String name, int[] pool, Model model) {
        int parameters = PROGRAM.get(name).getParameterCount();
        Object[] arguments = new Object[parameters];
        for (int i = 0; i < parameters; i++) {
            arguments[i] = below(40) == 0 ? WRONG[below(WRONG.length)] : chooseArgument(name, i, pool, model);
        }
        return arguments;
    }

    private static int chooseArgument(String name, int number, int[] pool, Model model) {
        switch (name) {
            case "rebuild":
                return below(7);
            case "setLoads":
                return number == 0 ? below(52) : 49 + below(below(2) == 0 ? 20 : 153);
            case "slotAt":
            case "nextCursor":
                return below(257);
            case "localDepth":
            case "bucketSize":
            case "buddyOf":
                return below((1 << model.globalDepth()) + 1);
            case "keyAt":
                return number == 0 ? below((1 << model.globalDepth()) + 1) : below(5);
            case "linearSize":
                return below(model.linearBuckets() + 1);
            case "linearKeyAt":
                return number == 0 ? below(model.linearBuckets() + 1) : below(5);
            case "put":
                return number == 0 ? pool[below(pool.length)] : below(1000000);
            default:
                return pool[below(pool.length)];
        }
    }

    private static String outcome(Method method, Object target, Object[] arguments) throws IllegalAccessException {
        try {
            return method.invoke(target, arguments).toString();
        } catch (InvocationTargetException e) {
            return e.getCause().getClass().getSimpleName();
        }
    }
}
