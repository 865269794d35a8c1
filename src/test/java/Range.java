import java.util.Set;
import java.util.TreeSet;
import java.util.function.Supplier;

/** A range of an argument: all in it is taken, what stands beside it and far from it is refused. */
final class Range {
    interface Call {
        long on(FeedbackQueueSimulator x, int value);
    }

    private Range() {
    }

    static void check(int least, int most, Class<? extends RuntimeException> kind,
            Supplier<FeedbackQueueSimulator> state, Call call) {
        takes(least, most, state, call);
        for (int outside : outside(least, most)) {
            Check.inside("with " + outside);
            Refusal.check(kind, state, x -> call.on(x, outside));
        }
        Check.inside("");
    }

    static void takes(int least, int most, Supplier<FeedbackQueueSimulator> state, Call call) {
        for (int k = least; k <= most; k++) {
            int value = k;
            FeedbackQueueSimulator x = state.get();
            String got = Refusal.thrown(x, y -> call.on(y, value));
            Check.due("with " + value + ": taken", got.startsWith("the answer ") ? "taken" : got, "taken");
        }
    }

    /** Those beside the range, and those that come into it if bits are lost or a sum wraps around. */
    private static Set<Integer> outside(int least, int most) {
        int[] far = {least - 1, most + 1, least - 2, most + 2, -1, -least, -most, Integer.MIN_VALUE, Integer.MAX_VALUE,
            Integer.MIN_VALUE + most, Integer.MAX_VALUE - most, least + 256, most - 256, least + 65536, most + (1 << 24)};
        Set<Integer> outside = new TreeSet<>();
        for (int value : far) {
            if (value < least || value > most) {
                outside.add(value);
            }
        }
        return outside;
    }
}
