import java.lang.reflect.InvocationTargetException;
import java.lang.reflect.Method;
import java.util.ArrayList;
import java.util.Arrays;
import java.util.HashMap;
import java.util.List;
import java.util.Map;
import java.util.Random;

/** All promises: random runs of up to 512 calls, each answer compared with that of the reference. */
public final class RandomRunsTest {
    private static final int RUNS = 1500;
    private static final int CALLS = 512;
    private static final int[] ODD = {-1, Integer.MIN_VALUE, Integer.MAX_VALUE, -2, 1000, 201, 401};
    private static final Map<String, Method> FACE = new HashMap<>();

    /** The largest argument of each call that is fine, with the least one before it. */
    private static final Object[][] CALLS_AND_RANGES = {
        {"setLevels", 1, 5}, {"setLevel", 0, 4, 1, 20, 1, 40, 0, 1}, {"setOption", 0, 5, 0, 20},
        {"setShare", 0, 3, 1, 9}, {"spawn", 0, 3, 0, 1, 1, 30, -1, 30, 1, 20}, {"kill", 0, 9},
        {"pin", 0, 2, 0, 9}, {"unpin", 0, 2}, {"tick"}, {"run", 1, 200}, {"clock"}, {"state", 0, 9},
        {"property", 0, 9, 0, 11}, {"queueLength", 0, 4}, {"queued", 0, 4, 0, 9}, {"history", 0, 31},
        {"usageEntries"}, {"usageEntry", 0, 19, 0, 2}, {"usageOf", 0, 3, 0, 4}, {"ratioBits", 0, 3},
        {"suspects"}, {"lateBits", 0, 9}, {"meanBits", 0, 2}, {"total", 0, 7}, {"predictEnd", 0, 9, 1, 400},
        {"starvation", 1, 200, 0, 1}, {"bestBoost", 1, 100}, {"unfairnessBits", 1, 200}, {"gain", 0, 9, 1, 200},
        {"switchesWith", 0, 4, 1, 20, 1, 200}, {"save"}, {"restore"}, {"errorPosition"}, {"execute"},
    };
    /** Few of those that end a machine's life early, many that let it live. */
    private static final int[] WEIGHTS = {
        1, 4, 6, 4, 10, 1, 4, 1, 60, 12, 2, 8, 30, 6, 10, 8, 3, 8, 6, 8, 4, 6, 4, 8, 5, 4, 1, 4, 4, 4, 2, 2, 2, 1,
    };

    private final Random random;
    private final FeedbackQueueSimulator x = new FeedbackQueueSimulator();
    private final Reference reference = new Reference();
    private final List<String> calls = new ArrayList<>();
    private boolean wrong = false;

    private RandomRunsTest(long seed) {
        random = new Random(seed);
    }

    public static void main(String[] args) throws IllegalAccessException {
        for (Method method : FeedbackQueueSimulator.class.getDeclaredMethods()) {
            FACE.put(method.getName(), method);
        }
        for (int run = 0; run < RUNS; run++) {
            RandomRunsTest one = new RandomRunsTest(run);
            one.go();
            if (one.wrong) {
                Check.due("random run " + run + ": " + one.calls, 1, 0);
                break;
            }
        }
        Check.end();
    }

    private void go() throws IllegalAccessException {
        int weights = Arrays.stream(WEIGHTS).sum();
        boolean small = random.nextBoolean();
        while (calls.size() < CALLS && !wrong) {
            int pick = random.nextInt(weights + 12);
            if (pick >= weights) {
                putAndExecute(RandomText.make(random));
                continue;
            }
            int k = 0;
            while (pick >= WEIGHTS[k]) {
                pick -= WEIGHTS[k];
                k++;
            }
            Object[] row = CALLS_AND_RANGES[k];
            int[] arguments = new int[(row.length - 1) / 2];
            for (int j = 0; j < arguments.length; j++) {
                arguments[j] = argument((Integer) row[2 * j + 1], (Integer) row[2 * j + 2], small);
            }
            same((String) row[0], arguments);
        }
    }

    private int argument(int least, int most, boolean small) {
        int pick = random.nextInt(60);
        if (pick == 0) {
            return ODD[random.nextInt(ODD.length)];
        }
        if (pick == 1) {
            return least - 1;
        }
        if (pick == 2) {
            return most + 1;
        }
        int reach = small && most > 12 && random.nextInt(4) > 0 ? least + 5 : most;
        return least + random.nextInt(reach - least + 1);
    }

    private void putAndExecute(String text) throws IllegalAccessException {
        int from = 0;
        while (from < text.length() && calls.size() < CALLS && !wrong) {
            int packed = 0;
            for (int part = 0; part < 4; part++) {
                boolean skip = random.nextInt(6) == 0;
                packed = packed << 8 | (skip || from >= text.length() ? 0 : text.charAt(from++));
            }
            same("append", new int[] {packed});
        }
        if (calls.size() + 2 <= CALLS && !wrong && random.nextInt(5) > 0) {
            same("execute", new int[0]);
            same("errorPosition", new int[0]);
        }
    }

    private void same(String name, int[] arguments) throws IllegalAccessException {
        String due;
        try {
            due = "" + reference.call(name, arguments);
        } catch (IllegalArgumentException | IllegalStateException | IndexOutOfBoundsException e) {
            due = e.getClass().getName();
        }
        String got;
        try {
            Object[] boxed = Arrays.stream(arguments).boxed().toArray();
            got = "" + FACE.get(name).invoke(x, boxed);
        } catch (InvocationTargetException e) {
            got = e.getCause().getClass().getName();
        }
        calls.add(name + Arrays.toString(arguments) + " " + got);
        if (!got.equals(due)) {
            wrong = true;
            Check.due(name + Arrays.toString(arguments), got, due);
        }
    }
}
