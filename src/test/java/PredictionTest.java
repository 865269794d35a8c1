/** Promises 29 to 34. */
public final class PredictionTest {
    public static void main(String[] args) {
        ends();
        starvation();
        boosts();
        unfairness();
        gains();
        switches();
        nothingChanges();
        Check.end();
    }

    private static void ends() {
        FeedbackQueueSimulator x = new FeedbackQueueSimulator();
        Check.failsIndex("29: none", () -> x.predictEnd(0, 1));
        x.run(3);
        x.spawn(0, 0, 4, 0, 1);
        x.spawn(0, 0, 2, 30, 2);
        x.spawn(0, 0, 30, 30, 20);
        Check.due("29: just in time", x.predictEnd(0, 8), 11);
        Check.due("29: one tick too few", x.predictEnd(0, 7), -1);
        Check.due("29: the second one", x.predictEnd(1, 100), 39);
        Check.due("29: never in 400", x.predictEnd(2, 400), -1);
        Check.due("29: nothing ran", x.clock(), 3);
        x.run(9);
        Check.due("29: finished", x.predictEnd(0, 1), 11);
        x.kill(1);
        Check.due("29: killed", x.predictEnd(1, 400), -1);
        Check.failsIndex("29: process 3", () -> x.predictEnd(3, 1));
        Check.failsIndex("29: index before argument", () -> x.predictEnd(-1, 0));
        Check.failsArgument("29: limit 0", () -> x.predictEnd(0, 0));
        Check.failsArgument("29: limit 401", () -> x.predictEnd(0, 401));
    }

    private static void starvation() {
        FeedbackQueueSimulator x = new FeedbackQueueSimulator();
        Check.due("30: without processes", x.starvation(10, 0), 0);
        Check.due("30: nobody waits", x.starvation(10, 1), -1);
        x.spawn(0, 0, 30, 0, 1);
        Check.due("30: alone", x.starvation(200, 0), 0);
        Check.due("30: alone", x.starvation(200, 1), -1);
        x.spawn(0, 0, 30, 0, 1);
        Check.due("30: one tick", x.starvation(1, 0), 1);
        Check.due("30: the second waits", x.starvation(1, 1), 1);
        // 0 runs 2 ticks, then 1: both wait for 2 at most until the quanta of 4 begin at clock 8.
        Check.due("30: two ticks", x.starvation(8, 0), 2);
        Check.due("30: the lowest", x.starvation(8, 1), 0);
        Check.due("30: three ticks", x.starvation(11, 0), 3);
        Check.due("30: the second", x.starvation(11, 1), 1);
        x.run(9);
        Check.due("30: waits before now do not count", x.starvation(3, 0), 3);
        Check.due("30: process", x.starvation(3, 1), 1);
        Check.due("30: a tick of its own ends it", x.starvation(4, 0), 3);
        Check.failsArgument("30: 0", () -> x.starvation(0, 0));
        Check.failsArgument("30: 201", () -> x.starvation(201, 0));
        Check.failsArgument("30: what 2", () -> x.starvation(1, 2));
        Check.failsArgument("30: what -1", () -> x.starvation(1, -1));
    }

    private static void boosts() {
        FeedbackQueueSimulator x = new FeedbackQueueSimulator();
        Check.due("31: all alike", x.bestBoost(100), 0);
        x.setOption(0, 7);
        x.spawn(0, 0, 30, 0, 20);
        x.spawn(0, 0, 30, 0, 20);
        int best = 0;
        int shortest = Integer.MAX_VALUE;
        for (int period = 0; period <= 20; period++) {
            x.setOption(0, period);
            int longest = x.starvation(100, 0);
            if (longest < shortest) {
                shortest = longest;
                best = period;
            }
        }
        x.setOption(0, 7);
        Check.due("31: by trying", x.bestBoost(100), best);
        // With a boost each tick the current process would keep the processor for ever.
        Check.due("31: quanta of level 0 alone", best, 2);
        Check.due("31: the option stays", x.setOption(0, 7), 7);
        FeedbackQueueSimulator y = new FeedbackQueueSimulator();
        y.setLevels(1);
        y.setLevel(0, 12, 34, 0);
        y.spawn(0, 0, 3, 28, 8);
        y.spawn(0, 0, 24, 13, 1);
        y.spawn(0, 0, 28, 1, 2);
        Check.due("31: the greatest period", y.bestBoost(90), 20);
        Check.failsArgument("31: 0", () -> x.bestBoost(0));
        Check.failsArgument("31: 101", () -> x.bestBoost(101));
    }

    private static void unfairness() {
        FeedbackQueueSimulator x = new FeedbackQueueSimulator();
        Check.due("32: no users", x.unfairnessBits(10), 0);
        x.setShare(1, 3);
        x.setShare(2, 9);
        x.spawn(0, 0, 30, 0, 20);
        x.spawn(1, 0, 30, 0, 20);
        x.spawn(2, 0, 1, 0, 1);
        x.kill(2);
        // 3 ticks: 2 of user 0 and 1 of user 1; targets 1/4 and 3/4; user 2 does not count.
        Check.due("32: three ticks", x.unfairnessBits(3), distance(2.0f / 3.0f, 1.0f / 4.0f));
        Check.due("32: two ticks", x.unfairnessBits(2), distance(1.0f, 1.0f / 4.0f));
        Check.due("32: eight ticks", x.unfairnessBits(8), distance(0.5f, 0.25f));
        FeedbackQueueSimulator y = new FeedbackQueueSimulator();
        y.spawn(0, 0, 1, 30, 2);
        y.setShare(3, 2);
        y.spawn(3, 0, 1, 5, 2);
        y.run(2);
        Check.due("32: idle ticks alone", y.unfairnessBits(5), 0);
        Check.due("32: idle ticks do not count", y.unfairnessBits(10), distance(0.0f, 1.0f / 3.0f));
        Check.due("32: both wait", y.unfairnessBits(40), distance(0.5f, 2.0f / 3.0f));
        y.run(100);
        y.spawn(0, 0, 30, 0, 1);
        y.spawn(3, 0, 30, 0, 1);
        Check.due("32: idle ticks before now do not count either", y.unfairnessBits(3), distance(2.0f / 3.0f, 1.0f / 3.0f));
        Check.failsArgument("32: 0", () -> x.unfairnessBits(0));
        Check.failsArgument("32: 201", () -> x.unfairnessBits(201));
    }

    private static int distance(float part, float target) {
        float difference = part - target;
        return Float.floatToIntBits(difference < 0.0f ? -difference : difference);
    }

    private static void gains() {
        FeedbackQueueSimulator x = new FeedbackQueueSimulator();
        x.spawn(0, 0, 3, -1, 20);
        x.spawn(0, 0, 30, 0, 20);
        for (int accounting = 0; accounting < 2; accounting++) {
            x.setOption(5, accounting);
            // Lenient: 0 stays at level 0 and is never kept waiting once 1 is demoted.
            int ran = x.property(0, 5);
            x.save();
            x.setOption(5, 0);
            x.run(60);
            int lenient = x.property(0, 5) - ran;
            x.restore();
            x.setOption(5, 1);
            x.run(60);
            int strict = x.property(0, 5) - ran;
            x.restore();
            Check.due("33: gain", x.gain(0, 60), lenient - strict);
            Check.due("33: it gains", lenient > strict ? 1 : 0, 1);
            Check.due("33: the other one's loss", x.gain(1, 60), strict - lenient);
            x.run(5);
        }
        Check.failsIndex("33: process 2", () -> x.gain(2, 1));
        Check.failsIndex("33: index before argument", () -> x.gain(-1, 0));
        Check.failsArgument("33: 0", () -> x.gain(0, 0));
        Check.failsArgument("33: 201", () -> x.gain(0, 201));
    }

    private static void switches() {
        FeedbackQueueSimulator x = new FeedbackQueueSimulator();
        x.setLevels(1);
        x.setLevel(0, 2, 40, 0);
        x.spawn(0, 0, 30, 0, 1);
        x.spawn(0, 0, 30, 0, 1);
        Check.due("34: 12 of one tick instead of 6 of two", x.switchesWith(0, 1, 12), 6);
        Check.due("34: 2 of six ticks", x.switchesWith(0, 6, 12), -4);
        Check.due("34: the present one", x.switchesWith(0, 2, 12), 0);
        x.tick();
        // The current process keeps its remaining tick: 0, then 1 for 6 ticks, then 0.
        Check.due("34: the remaining quantum stays", x.switchesWith(0, 6, 12), 2 - 6);
        Check.failsIndex("34: level 1", () -> x.switchesWith(1, 1, 1));
        Check.failsIndex("34: index before argument", () -> x.switchesWith(-1, 0, 0));
        Check.failsArgument("34: quantum 0", () -> x.switchesWith(0, 0, 1));
        Check.failsArgument("34: quantum 21", () -> x.switchesWith(0, 21, 1));
        Check.failsArgument("34: ticks 0", () -> x.switchesWith(0, 1, 0));
        Check.failsArgument("34: ticks 201", () -> x.switchesWith(0, 1, 201));
    }

    private static void nothingChanges() {
        for (int k = 0; k < 20; k++) {
            FeedbackQueueSimulator x = new FeedbackQueueSimulator();
            Check.good(x, "boost=30;decay=9;level1=3,5,1;", 3);
            Check.good(x, "spawn01=(c3i4)9;spawn10=(c9y)9;", 2);
            x.spawn(2, 0, 4, 1, 9);
            x.pin(1, 0);
            x.save();
            x.run(3 + 3 * k);
            String before = Check.look(x);
            x.predictEnd(1, 400);
            x.starvation(200, 0);
            x.bestBoost(100);
            x.unfairnessBits(200);
            x.gain(0, 200);
            x.switchesWith(1, 20, 200);
            Check.due("29 to 34: the machine stays as it is", Check.look(x), before);
            Check.due("29 to 34: the snapshot too", x.restore(), 0);
        }
    }
}
