import java.io.IOException;
import java.util.function.ToLongFunction;

/** All promises: each sentence of the document that names a boundary case has a test of its own. */
public final class BoundaryTest {
    public static void main(String[] args) throws IOException {
        States.check();
        Sentences s = new Sentences();
        general(s);
        ConfigurationCases.tell(s);
        TextCases.tell(s);
        ProcessCases.tell(s);
        TickCases.tell(s);
        QueryCases.tell(s);
        AccountingCases.tell(s);
        PredictionCases.tell(s);
        SnapshotCases.tell(s);
        s.end();
        Check.end();
    }

    private static void general(Sentences s) {
        s.plain(Sentences.WHAT_IT_IS, "A simulator of a multilevel feedback queue: processes with compute, input/output and yield"
                + " phases move through priority levels with quanta and allotments, with periodic boosts, fair shares among"
                + " users, accounting that resists gaming, detection of suspicious processes, and predictions on copies of the"
                + " machine.");
        s.test(Sentences.WHAT_IT_IS, "An object is used for at most 512 calls after it has been made; what later calls answer is"
                + " free.", BoundaryTest::manyCalls);
        s.plain(Sentences.DESCRIPTION, "The class is not thread-safe.");
        s.test(Sentences.DESCRIPTION, "A method that throws an exception leaves the state unchanged, unless its description says"
                + " otherwise.", BoundaryTest::refusedInEachState);
        s.test(Sentences.DESCRIPTION, "If several exceptions are possible, the one listed first in the description of the method"
                + " is thrown.", BoundaryTest::firstOfSeveral);
    }

    /** The longest life: 10 processes, then the longest runs until the 511th call; the 512th tells the clock. */
    private static void manyCalls() {
        FeedbackQueueSimulator x = new FeedbackQueueSimulator();
        for (int p = 0; p < 10; p++) {
            x.spawn(p % 4, 0, 30, 30, 20);
        }
        int idle = 0;
        for (int call = 11; call <= 511; call++) {
            idle += x.run(200);
        }
        Check.due("the clock behind 501 runs", x.clock(), 501 * 200);
        Check.due("6000 ticks were not idle", idle, 501 * 200 - 6000);
    }

    /** A refused call of each method that can refuse one, one behind the other, in each of the states. */
    private static void refusedInEachState() {
        for (java.util.function.Supplier<FeedbackQueueSimulator> state : States.ALL) {
            for (java.util.function.Function<FeedbackQueueSimulator, String> eye : Eyes.OF_MACHINE) {
                FeedbackQueueSimulator x = state.get();
                refuseAll(x);
                Check.due("the machine behind all refused calls", eye.apply(x), Refusal.untouched(state, eye));
            }
            FeedbackQueueSimulator x = state.get();
            refuseAll(x);
            Check.due("the text behind all refused calls", Eyes.OF_TEXT.apply(x), Refusal.untouched(state, Eyes.OF_TEXT));
        }
    }

    private static void refuseAll(FeedbackQueueSimulator x) {
        for (int far : new int[] {-1, 1000, Integer.MIN_VALUE, Integer.MAX_VALUE}) {
            refuse(Refusal.ARGUMENT, x, y -> y.setLevels(far));
            refuse(Refusal.INDEX, x, y -> y.setLevel(far, 1, 1, 1));
            refuse(Refusal.ARGUMENT, x, y -> y.setLevel(0, 1, far, 1));
            refuse(Refusal.INDEX, x, y -> y.setOption(far, 1));
            refuse(Refusal.ARGUMENT, x, y -> y.setOption(0, far));
            refuse(Refusal.INDEX, x, y -> y.setShare(far, 1));
            refuse(Refusal.ARGUMENT, x, y -> y.setShare(0, far));
            refuse(Refusal.ARGUMENT, x, y -> y.append(far));
            refuse(Refusal.INDEX, x, y -> y.spawn(far, 0, 1, 0, 1));
            refuse(Refusal.ARGUMENT, x, y -> y.spawn(0, 0, 1, 0, far));
            refuse(Refusal.INDEX, x, y -> y.kill(far));
            refuse(Refusal.INDEX, x, y -> y.pin(far, 0));
            refuse(Refusal.INDEX, x, y -> y.pin(0, far));
            refuse(Refusal.INDEX, x, y -> y.unpin(far));
            refuse(Refusal.ARGUMENT, x, y -> y.run(far));
            refuse(Refusal.INDEX, x, y -> y.state(far));
            refuse(Refusal.INDEX, x, y -> y.property(far, 0));
            refuse(Refusal.INDEX, x, y -> y.queueLength(far));
            refuse(Refusal.INDEX, x, y -> y.queued(far, 0));
            refuse(Refusal.INDEX, x, y -> y.queued(0, far));
            refuse(Refusal.INDEX, x, y -> y.history(far));
            refuse(Refusal.INDEX, x, y -> y.usageEntry(far, 0));
            refuse(Refusal.INDEX, x, y -> y.usageOf(far, 0));
            refuse(Refusal.INDEX, x, y -> y.usageOf(0, far));
            refuse(Refusal.INDEX, x, y -> y.ratioBits(far));
            refuse(Refusal.INDEX, x, y -> y.lateBits(far));
            refuse(Refusal.ARGUMENT, x, y -> y.meanBits(far));
            refuse(Refusal.ARGUMENT, x, y -> y.total(far));
            refuse(Refusal.INDEX, x, y -> y.predictEnd(far, 1));
            refuse(Refusal.ARGUMENT, x, y -> y.starvation(far, 0));
            refuse(Refusal.ARGUMENT, x, y -> y.starvation(1, far));
            refuse(Refusal.ARGUMENT, x, y -> y.bestBoost(far));
            refuse(Refusal.ARGUMENT, x, y -> y.unfairnessBits(far));
            refuse(Refusal.INDEX, x, y -> y.gain(far, 1));
            refuse(Refusal.INDEX, x, y -> y.switchesWith(far, 1, 1));
            refuse(Refusal.ARGUMENT, x, y -> y.switchesWith(0, far, 1));
        }
    }

    private static void refuse(Class<? extends RuntimeException> kind, FeedbackQueueSimulator x,
            ToLongFunction<FeedbackQueueSimulator> call) {
        Check.due("a refused call", Refusal.thrown(x, call), kind.getName());
    }

    /** Each method that has two or three exceptions, with all that can be wrong at once. */
    private static void firstOfSeveral() {
        Refusal.check(Refusal.ARGUMENT, States.FULL, x -> x.setLevels(0));
        Refusal.check(Refusal.INDEX, States.BUSY, x -> x.setLevel(4, 0, 0, 2));
        Refusal.check(Refusal.INDEX, States.BUSY, x -> x.setOption(6, -1));
        Refusal.check(Refusal.INDEX, States.BUSY, x -> x.setShare(4, 0));
        Refusal.check(Refusal.ARGUMENT, States.FULL, x -> x.append('a' << 24 | 'b' << 16 | 'c' << 8 | 127));
        Refusal.check(Refusal.INDEX, States.FULL, x -> x.spawn(4, 2, 0, -2, 0));
        Refusal.check(Refusal.ARGUMENT, States.FULL, x -> x.spawn(0, 0, 1, 0, 21));
        Refusal.check(Refusal.INDEX, States.OVER, x -> x.kill(3));
        Refusal.check(Refusal.INDEX, States.FULL, x -> x.pin(3, 0));
        Refusal.check(Refusal.INDEX, States.FULL, x -> x.pin(3, 1));
        Refusal.check(Refusal.INDEX, States.FULL, x -> x.pin(0, 10));
        Refusal.check(Refusal.ARGUMENT, States.FULL, x -> x.pin(0, 0));
        Refusal.check(Refusal.INDEX, States.FRESH, x -> x.unpin(3));
        Refusal.check(Refusal.INDEX, States.FRESH, x -> x.property(0, 12));
        Refusal.check(Refusal.INDEX, States.FRESH, x -> x.usageEntry(0, 3));
        Refusal.check(Refusal.ARGUMENT, States.FRESH, x -> x.meanBits(3));
        Refusal.check(Refusal.INDEX, States.FRESH, x -> x.predictEnd(0, 0));
        Refusal.check(Refusal.INDEX, States.FRESH, x -> x.gain(0, 0));
        Refusal.check(Refusal.INDEX, States.BUSY, x -> x.switchesWith(4, 0, 0));
    }
}
