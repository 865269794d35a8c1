import java.util.function.Supplier;

/**
 * Ticks worked out by hand, a row for each: the clock before the tick, the process that ran (- for none), the
 * queue of each level (the numbers of its processes, - for an empty one), and each process with its state
 * (R ready, C current, W waiting, F finished, K killed), its level and budget and, if it is current, its
 * remaining quantum. So C1.3.2 is current at level 1, with a budget of 3 and 2 ticks of its quantum left.
 */
final class Table {
    private static final String STATES = "RCWFK";

    private Table() {
    }

    /** Each row is compared with an object of its own, so that no object is called too often. */
    static void follow(String name, Supplier<FeedbackQueueSimulator> begin, String... rows) {
        FeedbackQueueSimulator byTicks = begin.get();
        for (int k = 0; k < rows.length; k++) {
            String row = rows[k].trim().replaceAll(" +", " ");
            FeedbackQueueSimulator x = begin.get();
            if (k > 0) {
                x.run(k);
            }
            Check.due(name, rowOf(x, row.split(" ").length), row);
            int running = byTicks.tick();
            Check.due(name + ", tick by tick", running < 0 ? "-" : "" + running, row.split(" ")[1]);
        }
    }

    private static String rowOf(FeedbackQueueSimulator x, int columns) {
        StringBuilder row = new StringBuilder();
        row.append(x.clock());
        int running = x.tick();
        row.append(' ').append(running < 0 ? "-" : "" + running);
        int processes = x.total(5);
        for (int level = 0; level < columns - 2 - processes; level++) {
            row.append(' ').append(queueOf(x, level));
        }
        for (int p = 0; p < processes; p++) {
            row.append(' ').append(STATES.charAt(x.state(p)));
            row.append(x.property(p, 2)).append('.').append(x.property(p, 3));
            if (x.state(p) == 1) {
                row.append('.').append(x.property(p, 4));
            } else {
                Check.due("remaining quantum of " + p + ", which is not current", x.property(p, 4), 0);
            }
        }
        return row.toString();
    }

    private static String queueOf(FeedbackQueueSimulator x, int level) {
        StringBuilder queue = new StringBuilder();
        for (int place = 0; place < x.queueLength(level); place++) {
            queue.append(x.queued(level, place));
        }
        return queue.length() == 0 ? "-" : queue.toString();
    }
}
