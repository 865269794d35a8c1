import java.util.List;
import java.util.function.Function;

/**
 * Looks at an object, part by part. A look may change the object, so each is taken of one made for it;
 * each stays below the 512 calls that an object is good for.
 */
final class Eyes {
    static final List<Function<FeedbackQueueSimulator, String>> OF_MACHINE = List.of(
            Eyes::processes, Eyes::lists, Eyes::settings, Eyes::forecasts, Eyes::future, Eyes::snapshot);
    static final Function<FeedbackQueueSimulator, String> OF_TEXT = Eyes::text;

    private Eyes() {
    }

    private static void note(StringBuilder seen, Check.Call call) {
        try {
            seen.append(' ').append(call.answer());
        } catch (RuntimeException e) {
            seen.append(' ').append(e.getClass().getSimpleName());
        }
    }

    private static String processes(FeedbackQueueSimulator x) {
        StringBuilder seen = new StringBuilder();
        for (int k = 0; k < x.total(5); k++) {
            int p = k;
            seen.append("\n process ").append(p).append(':');
            note(seen, () -> x.state(p));
            for (int j = 0; j < 12; j++) {
                int what = j;
                note(seen, () -> x.property(p, what));
            }
            note(seen, () -> x.lateBits(p));
        }
        return seen.toString();
    }

    private static String lists(FeedbackQueueSimulator x) {
        StringBuilder seen = new StringBuilder();
        for (int k = 0; k < 5; k++) {
            int level = k;
            seen.append("\n queue ").append(level).append(':');
            note(seen, () -> x.queueLength(level));
            for (int j = 0; j < 10; j++) {
                int place = j;
                note(seen, () -> x.queued(level, place));
            }
            for (int j = 0; j < 4; j++) {
                int user = j;
                note(seen, () -> x.usageOf(user, level));
            }
        }
        seen.append("\n past:");
        for (int k = 0; k < 32; k++) {
            int back = k;
            note(seen, () -> x.history(back));
        }
        seen.append("\n entries:");
        for (int k = 0; k < 3 * x.usageEntries(); k++) {
            int part = k;
            note(seen, () -> x.usageEntry(part / 3, part % 3));
        }
        return seen.toString();
    }

    private static String settings(FeedbackQueueSimulator x) {
        StringBuilder seen = new StringBuilder();
        note(seen, x::clock);
        note(seen, x::suspects);
        for (int k = 0; k < 8; k++) {
            int what = k;
            note(seen, () -> x.total(what));
            note(seen, () -> x.meanBits(what % 3));
            note(seen, () -> x.ratioBits(what % 4));
            note(seen, () -> x.setOption(what % 6, 1));
            note(seen, () -> x.setShare(what % 4, 1));
            note(seen, () -> x.unpin(what % 3));
        }
        seen.append("\n levels:");
        note(seen, () -> x.setLevels(5));
        for (int k = 0; k < 5; k++) {
            int level = k;
            note(seen, () -> x.setLevel(level, 1, 1, 0));
        }
        return seen.toString();
    }

    private static String forecasts(FeedbackQueueSimulator x) {
        StringBuilder seen = new StringBuilder();
        for (int k = 0; k < 10; k++) {
            int p = k;
            note(seen, () -> x.predictEnd(p, 400));
            note(seen, () -> x.gain(p, 200));
        }
        for (int k = 0; k < 5; k++) {
            int level = k;
            note(seen, () -> x.switchesWith(level, 1, 200));
        }
        note(seen, () -> x.starvation(200, 0));
        note(seen, () -> x.starvation(200, 1));
        note(seen, () -> x.bestBoost(100));
        note(seen, () -> x.unfairnessBits(200));
        return seen.toString();
    }

    /** What comes shows the allotments and policies, which no call answers. */
    private static String future(FeedbackQueueSimulator x) {
        StringBuilder seen = new StringBuilder();
        for (int k = 0; k < 120; k++) {
            note(seen, x::tick);
        }
        return seen.append(processes(x)).toString();
    }

    private static String text(FeedbackQueueSimulator x) {
        StringBuilder seen = new StringBuilder();
        note(seen, x::errorPosition);
        note(seen, () -> x.append(0));
        note(seen, x::execute);
        note(seen, x::errorPosition);
        note(seen, () -> x.append(0));
        return seen.append(settings(x)).toString();
    }

    private static String snapshot(FeedbackQueueSimulator x) {
        StringBuilder seen = new StringBuilder();
        note(seen, x::restore);
        return seen.append(processes(x)).append(settings(x)).toString();
    }
}
