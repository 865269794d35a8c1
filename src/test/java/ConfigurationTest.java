/** Promises 1 to 5. */
public final class ConfigurationTest {
    private static final int[] OPTION_LEAST = {0, 0, 0, 0, 1, 0};
    private static final int[] OPTION_MOST = {200, 200, 16, 9, 9, 1};
    private static final int[] OPTION_FIRST = {0, 0, 8, 1, 3, 1};

    public static void main(String[] args) {
        newObject();
        firstAllotments();
        levels();
        level();
        levelLeavesRemainingQuantum();
        options();
        shares();
        Check.end();
    }

    private static void newObject() {
        FeedbackQueueSimulator x = new FeedbackQueueSimulator();
        Check.due("1: clock", x.clock(), 0);
        Check.due("1: errorPosition", x.errorPosition(), -1);
        Check.due("1: characters", x.append(0), 0);
        Check.due("1: entries", x.usageEntries(), 0);
        Check.due("1: suspects", x.suspects(), 0);
        for (int what = 0; what < 8; what++) {
            Check.due("1: total " + what, x.total(what), 0);
        }
        for (int level = 0; level < 3; level++) {
            Check.due("1: queue of " + level, x.queueLength(level), 0);
        }
        Check.failsIndex("1: level 3", () -> x.queueLength(3));
        Check.failsIndex("1: process 0", () -> x.state(0));
        Check.failsIndex("1: history", () -> x.history(0));
        for (int pin = 0; pin < 3; pin++) {
            int empty = pin;
            Check.failsState("1: pin " + pin, () -> x.unpin(empty));
        }
        Check.failsState("1: means", () -> x.meanBits(0));
        Check.failsState("1: snapshot", x::restore);
        for (int user = 0; user < 4; user++) {
            Check.due("1: ratio of " + user, x.ratioBits(user), 0);
            Check.due("1: weight of " + user, x.setShare(user, 1), 1);
        }
        for (int option = 0; option < 6; option++) {
            Check.due("1: option " + option, x.setOption(option, OPTION_FIRST[option]), OPTION_FIRST[option]);
        }
        Check.due("1: levels", x.setLevels(5), 3);
        int[] quanta = {2, 4, 8, 8, 8};
        for (int level = 0; level < 5; level++) {
            Check.due("1: quantum of " + level, x.setLevel(level, 1, 1, 0), quanta[level]);
        }
    }

    private static void firstAllotments() {
        FeedbackQueueSimulator x = new FeedbackQueueSimulator();
        x.setLevels(5);
        x.spawn(0, 0, 30, 0, 3);
        int[] allotments = {4, 8, 16, 16, 16};
        for (int level = 0; level < 5; level++) {
            x.run(allotments[level] - 1 > 0 ? allotments[level] - 1 : 1);
            Check.due("1: before the end of allotment " + level, x.property(0, 2), level);
            x.tick();
            Check.due("1: after the allotment " + level, x.property(0, 2), level < 4 ? level + 1 : 4);
            Check.due("1: budget after it", x.property(0, 3), 0);
        }
        Check.due("1: demotions", x.property(0, 11), 4);
        // With policy 0 the user with the lower ratio has to wait for its turn.
        FeedbackQueueSimulator y = new FeedbackQueueSimulator();
        y.spawn(0, 0, 2, 0, 1);
        y.run(2);
        y.spawn(0, 0, 1, 0, 1);
        y.spawn(1, 0, 1, 0, 1);
        Check.due("1: policy 0 at first", y.tick(), 1);
    }

    private static void levels() {
        FeedbackQueueSimulator x = new FeedbackQueueSimulator();
        Check.due("2: to 1", x.setLevels(1), 3);
        Check.failsIndex("2: level 1", () -> x.queueLength(1));
        Check.due("2: to 5", x.setLevels(5), 1);
        Check.due("2: level 4", x.queueLength(4), 0);
        Check.failsArgument("2: 0", () -> x.setLevels(0));
        Check.failsArgument("2: 6", () -> x.setLevels(6));
        Check.failsArgument("2: least int", () -> x.setLevels(Integer.MIN_VALUE));
        Check.due("2: to 2", x.setLevels(2), 5);
        x.setLevel(1, 9, 9, 0);
        x.setLevels(1);
        Check.due("2: a level keeps its settings", x.setLevels(2), 1);
        Check.due("2: its quantum", x.setLevel(1, 4, 8, 0), 9);
        x.setLevels(1);
        x.spawn(0, 0, 30, 0, 1);
        Check.failsState("2: with a process", () -> x.setLevels(2));
        Check.failsArgument("2: argument before state", () -> x.setLevels(6));
        x.run(20);
        Check.due("2: no level below", x.property(0, 2), 0);
        Check.due("2: no demotion", x.property(0, 11), 0);
        x.kill(0);
        Check.failsState("2: with a killed process", () -> x.setLevels(2));
    }

    private static void level() {
        FeedbackQueueSimulator x = new FeedbackQueueSimulator();
        Check.due("3: edges above", x.setLevel(2, 20, 40, 1), 8);
        Check.due("3: edges below", x.setLevel(2, 1, 1, 0), 20);
        Check.failsIndex("3: level 3", () -> x.setLevel(3, 1, 1, 0));
        Check.failsIndex("3: level -1", () -> x.setLevel(-1, 1, 1, 0));
        Check.failsIndex("3: index before argument", () -> x.setLevel(3, 0, 0, 2));
        Check.failsArgument("3: quantum 0", () -> x.setLevel(2, 0, 1, 0));
        Check.failsArgument("3: quantum 21", () -> x.setLevel(2, 21, 1, 0));
        Check.failsArgument("3: allotment 0", () -> x.setLevel(2, 5, 0, 0));
        Check.failsArgument("3: allotment 41", () -> x.setLevel(2, 5, 41, 0));
        Check.failsArgument("3: policy -1", () -> x.setLevel(2, 5, 5, -1));
        Check.failsArgument("3: policy 2", () -> x.setLevel(2, 5, 5, 2));
        Check.due("3: quantum after exceptions", x.setLevel(2, 1, 1, 0), 1);
    }

    private static void levelLeavesRemainingQuantum() {
        FeedbackQueueSimulator x = new FeedbackQueueSimulator();
        x.spawn(0, 0, 30, 0, 1);
        x.spawn(1, 0, 30, 0, 1);
        x.tick();
        x.setLevel(0, 10, 40, 0);
        Check.due("3: remaining quantum", x.property(0, 4), 1);
        Check.due("3: last tick of the quantum", x.tick(), 0);
        Check.due("3: ready", x.state(0), 0);
        Check.due("3: the next one", x.tick(), 1);
        Check.due("3: with the new quantum", x.property(1, 4), 9);
        x.setLevel(0, 10, 2, 0);
        x.tick();
        Check.due("3: the new allotment", x.property(1, 2), 1);
    }

    private static void options() {
        FeedbackQueueSimulator x = new FeedbackQueueSimulator();
        for (int k = 0; k < 6; k++) {
            int option = k;
            Check.due("4: option " + k, x.setOption(k, OPTION_MOST[k]), OPTION_FIRST[k]);
            Check.due("4: option " + k, x.setOption(k, OPTION_LEAST[k]), OPTION_MOST[k]);
            Check.failsArgument("4: above " + k, () -> x.setOption(option, OPTION_MOST[option] + 1));
            Check.failsArgument("4: below " + k, () -> x.setOption(option, OPTION_LEAST[option] - 1));
            Check.due("4: option " + k, x.setOption(k, OPTION_FIRST[k]), OPTION_LEAST[k]);
        }
        Check.failsIndex("4: option 6", () -> x.setOption(6, 0));
        Check.failsIndex("4: option -1", () -> x.setOption(-1, 0));
        Check.failsIndex("4: index before argument", () -> x.setOption(6, 1000));
    }

    private static void shares() {
        FeedbackQueueSimulator x = new FeedbackQueueSimulator();
        for (int k = 0; k < 4; k++) {
            int user = k;
            Check.due("5: user " + k, x.setShare(k, 9), 1);
            Check.failsArgument("5: weight 0", () -> x.setShare(user, 0));
            Check.failsArgument("5: weight 10", () -> x.setShare(user, 10));
            Check.due("5: user " + k, x.setShare(k, k + 1), 9);
            Check.due("5: user " + k, x.setShare(k, k + 1), k + 1);
        }
        Check.failsIndex("5: user 4", () -> x.setShare(4, 1));
        Check.failsIndex("5: user -1", () -> x.setShare(-1, 1));
        Check.failsIndex("5: index before argument", () -> x.setShare(4, 0));
    }
}
