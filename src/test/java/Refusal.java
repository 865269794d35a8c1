import java.util.HashMap;
import java.util.Map;
import java.util.function.Function;
import java.util.function.Supplier;
import java.util.function.ToLongFunction;

/** A refused call: which exception, who threw it, and that all stays as it was. */
final class Refusal {
    static final Class<? extends RuntimeException> INDEX = IndexOutOfBoundsException.class;
    static final Class<? extends RuntimeException> ARGUMENT = IllegalArgumentException.class;
    static final Class<? extends RuntimeException> STATE = IllegalStateException.class;

    private static final Map<Supplier<FeedbackQueueSimulator>, Map<Object, String>> UNTOUCHED = new HashMap<>();

    private Refusal() {
    }

    static void check(Class<? extends RuntimeException> kind, Supplier<FeedbackQueueSimulator> state,
            ToLongFunction<FeedbackQueueSimulator> call) {
        for (Function<FeedbackQueueSimulator, String> eye : Eyes.OF_MACHINE) {
            behind(kind, state, call, eye);
        }
        behind(kind, state, call, Eyes.OF_TEXT);
    }

    private static void behind(Class<? extends RuntimeException> kind, Supplier<FeedbackQueueSimulator> state,
            ToLongFunction<FeedbackQueueSimulator> call, Function<FeedbackQueueSimulator, String> eye) {
        FeedbackQueueSimulator x = state.get();
        Check.due("the refused call", thrown(x, call), kind.getName());
        Check.due("the state behind the refused call", eye.apply(x), untouched(state, eye));
    }

    /** How an object looks that was made alike and has not seen the refused call. */
    static String untouched(Supplier<FeedbackQueueSimulator> state, Function<FeedbackQueueSimulator, String> eye) {
        return UNTOUCHED.computeIfAbsent(state, any -> new HashMap<>())
                .computeIfAbsent(eye, any -> eye.apply(state.get()));
    }

    /** The exact class: the machine's own exceptions stand below those of the document. */
    static String thrown(FeedbackQueueSimulator x, ToLongFunction<FeedbackQueueSimulator> call) {
        try {
            return "the answer " + call.applyAsLong(x);
        } catch (RuntimeException e) {
            StackTraceElement[] trace = e.getStackTrace();
            boolean own = trace.length > 0 && trace[0].getClassName().startsWith("FeedbackQueueSimulator");
            return e.getClass().getName() + (own ? "" : ", not thrown by the class itself");
        }
    }
}
