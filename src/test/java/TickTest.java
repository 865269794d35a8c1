/** Promises 13 to 20, part by part of a tick. */
public final class TickTest {
    public static void main(String[] args) {
        ticks();
        runs();
        states();
        wakingOrder();
        boosts();
        decays();
        preemptions();
        fairDispatch();
        switches();
        allotmentsAndQuanta();
        giveUps();
        properties();
        queues();
        past();
        Check.end();
    }

    private static void ticks() {
        FeedbackQueueSimulator x = new FeedbackQueueSimulator();
        Check.due("13: idle", x.tick(), -1);
        Check.due("15: clock", x.clock(), 1);
        x.spawn(0, 0, 3, 0, 1);
        x.spawn(0, 0, 3, 0, 1);
        int[] ran = {0, 0, 1, 1, 0, 1, -1};
        for (int k = 0; k < ran.length; k++) {
            Check.due("13: tick " + k, x.tick(), ran[k]);
            Check.due("15: clock", x.clock(), k + 2);
        }
        Check.due("28: idle", x.total(0), 2);
    }

    private static void runs() {
        FeedbackQueueSimulator x = new FeedbackQueueSimulator();
        Check.failsArgument("14: 0", () -> x.run(0));
        Check.failsArgument("14: 201", () -> x.run(201));
        Check.failsArgument("14: -1", () -> x.run(-1));
        Check.due("14: 1", x.run(1), 1);
        x.spawn(0, 0, 5, 10, 2);
        Check.due("14: only its own idle ticks", x.run(5), 0);
        Check.due("14: 200", x.run(200), 195);
        Check.due("15: clock", x.clock(), 206);
    }

    private static void states() {
        FeedbackQueueSimulator x = new FeedbackQueueSimulator();
        x.spawn(0, 0, 1, 1, 2);
        Check.due("16: ready", x.state(0), 0);
        x.tick();
        Check.due("16: waiting", x.state(0), 2);
        x.tick();
        x.tick();
        Check.due("16: finished", x.state(0), 3);
        x.spawn(0, 0, 2, 0, 1);
        x.tick();
        Check.due("16: current", x.state(1), 1);
        x.kill(1);
        Check.due("16: killed", x.state(1), 4);
        Check.failsIndex("16: no such process", () -> x.state(2));
        Check.failsIndex("16: -1", () -> x.state(-1));
    }

    private static void wakingOrder() {
        FeedbackQueueSimulator x = new FeedbackQueueSimulator();
        // Process 1 begins its operation before process 0 does; both operations end at 5.
        Check.good(x, "spawn00=c1yc1i2c1;spawn00=c1i3c1;", 2);
        int[] ran = {0, 1, 0, -1, -1, 0, 1};
        for (int k = 0; k < ran.length; k++) {
            Check.due("13: waking, tick " + k, x.tick(), ran[k]);
        }
    }

    private static void boosts() {
        FeedbackQueueSimulator x = new FeedbackQueueSimulator();
        x.setOption(0, 10);
        x.spawn(0, 0, 30, 0, 2);
        x.spawn(0, 1, 5, 9, 3);
        x.spawn(1, 0, 30, 0, 2);
        x.run(10);
        Check.due("13: no boost at clock 0", x.total(3), 0);
        // Each had its allotment at level 0 by clock 10, with the processor changing after 2 ticks.
        Check.due("13: level", x.property(0, 2), 1);
        Check.due("13: level", x.property(1, 2), 1);
        Check.due("13: level 0 has one", x.property(2, 2), 0);
        x.tick();
        Check.due("13: one boost", x.total(3), 1);
        for (int p = 0; p < 3; p++) {
            Check.due("13: boosted " + p, x.property(p, 2), 0);
        }
        Check.due("13: queues joined in order", x.queueLength(0), 2);
        x.run(189);
        Check.due("13: boosts until 199", x.total(3), 19);
        x.tick();
        Check.due("13: a boost without processes counts too", x.total(3), 20);
        currentKeepsRunning();
        boostReachesWaiting();
    }

    private static void currentKeepsRunning() {
        FeedbackQueueSimulator x = new FeedbackQueueSimulator();
        x.setLevel(0, 5, 6, 0);
        x.spawn(0, 0, 30, 0, 1);
        x.run(9);
        Check.due("13: at level 1", x.property(0, 2), 1);
        Check.due("13: budget 3", x.property(0, 3), 3);
        Check.due("13: quantum", x.property(0, 4), 1);
        x.spawn(0, 0, 1, 0, 1);
        x.setOption(0, 9);
        Check.due("13: the current process goes on with level 0", x.tick(), 0);
        Check.due("13: quantum of level 0, less one", x.property(0, 4), 4);
        Check.due("13: budget", x.property(0, 3), 1);
        Check.due("13: no preemption", x.total(2), 0);
    }

    private static void boostReachesWaiting() {
        FeedbackQueueSimulator x = new FeedbackQueueSimulator();
        x.spawn(0, 0, 5, 10, 2);
        x.run(5);
        x.setOption(0, 3);
        Check.due("13: level", x.property(0, 2), 1);
        Check.due("13: budget", x.property(0, 3), 1);
        x.run(2);
        Check.due("13: a waiting process is boosted", x.property(0, 2), 0);
        Check.due("13: its budget", x.property(0, 3), 0);
        Check.due("13: it goes on waiting", x.state(0), 2);
        // A process that has ended keeps its level.
        FeedbackQueueSimulator y = new FeedbackQueueSimulator();
        y.spawn(0, 0, 5, 0, 1);
        y.run(5);
        y.setOption(0, 1);
        y.run(5);
        Check.due("13: level of a finished process", y.property(0, 2), 1);
        Check.due("13: budget of a finished process", y.property(0, 3), 1);
    }

    private static void decays() {
        FeedbackQueueSimulator x = new FeedbackQueueSimulator();
        x.spawn(1, 0, 30, 0, 1);
        x.setOption(1, 4);
        x.setOption(2, 5);
        float usage = 0.0f;
        for (int t = 0; t < 30; t++) {
            if (t > 0 && t % 4 == 0) {
                usage = usage * (5.0f / 16.0f);
            }
            usage += 1.0f;
            x.tick();
            Check.due("13: usage at " + t, x.ratioBits(1), Float.floatToIntBits(usage));
        }
        Check.due("13: decays", x.total(4), 7);
        x.setOption(1, 1);
        x.setOption(2, 0);
        x.tick();
        Check.due("13: a factor of 0", x.ratioBits(1), 0);
    }

    private static void preemptions() {
        FeedbackQueueSimulator x = new FeedbackQueueSimulator();
        x.spawn(0, 0, 30, 0, 1);
        x.spawn(1, 0, 30, 0, 1);
        x.run(9);
        Check.due("13: process 0 runs at level 1", x.state(0), 1);
        Check.due("13: with a quantum of 4", x.property(0, 4), 3);
        x.spawn(2, 0, 1, 0, 1);
        Check.due("13: the new process runs", x.tick(), 2);
        Check.due("13: preemptions", x.total(2), 1);
        Check.due("13: ready", x.state(0), 0);
        Check.due("13: no quantum", x.property(0, 4), 0);
        Check.due("13: first in its queue", x.queued(1, 0), 0);
        Check.due("13: before the other", x.queued(1, 1), 1);
        Check.due("13: its budget stays", x.property(0, 3), 1);
        Check.due("13: it runs again", x.tick(), 0);
        Check.due("13: with the whole quantum", x.property(0, 4), 3);
        // A process of the same level does not preempt.
        FeedbackQueueSimulator y = new FeedbackQueueSimulator();
        y.spawn(0, 0, 5, 0, 1);
        y.tick();
        y.spawn(0, 0, 5, 0, 1);
        Check.due("13: goes on", y.tick(), 0);
        Check.due("13: no preemption", y.total(2), 0);
    }

    private static void fairDispatch() {
        FeedbackQueueSimulator x = new FeedbackQueueSimulator();
        x.setLevels(1);
        x.setLevel(0, 1, 40, 1);
        x.setShare(2, 2);
        x.spawn(2, 0, 30, 0, 1);
        x.spawn(1, 0, 30, 0, 1);
        x.spawn(1, 0, 30, 0, 1);
        // Ratios (user 1, user 2): 0 0 > 1; 1 0 > 2; 1 .5 > 2; 1 1 > 1; 2 1 > 2; 2 1.5 > 2; 2 2 > 1.
        int[] ran = {1, 0, 0, 2, 0, 0, 1};
        for (int k = 0; k < ran.length; k++) {
            Check.due("13: fair tick " + k, x.tick(), ran[k]);
        }
        Check.due("13: waited", x.property(2, 6), 6);
    }

    private static void switches() {
        FeedbackQueueSimulator x = new FeedbackQueueSimulator();
        x.spawn(0, 0, 5, 3, 2);
        x.run(5);
        Check.due("13: the first dispatch is a switch, the same process again is none", x.total(1), 1);
        x.run(4);
        Check.due("13: none behind idle ticks either", x.total(1), 1);
        x.spawn(0, 0, 1, 0, 1);
        x.run(2);
        Check.due("13: there and back", x.total(1), 3);
    }

    private static void allotmentsAndQuanta() {
        FeedbackQueueSimulator x = new FeedbackQueueSimulator();
        x.setLevel(0, 3, 4, 0);
        x.spawn(0, 0, 30, 0, 1);
        x.spawn(0, 0, 30, 0, 1);
        x.run(3);
        Check.due("13: the quantum is over", x.state(0), 0);
        Check.due("13: the budget stays", x.property(0, 3), 3);
        x.run(4);
        Check.due("13: the allotment is over before the quantum", x.property(0, 2), 1);
        Check.due("13: queued below", x.queued(1, 0), 0);
        Check.due("13: budget", x.property(0, 3), 0);
        // A finished process is not demoted, and its budget is kept.
        FeedbackQueueSimulator y = new FeedbackQueueSimulator();
        y.spawn(0, 0, 4, 0, 1);
        y.run(4);
        Check.due("13: finished", y.state(0), 3);
        Check.due("13: level", y.property(0, 2), 0);
        Check.due("13: budget", y.property(0, 3), 4);
        Check.due("13: demotions", y.property(0, 11), 0);
        // At the last level the budget begins anew and the process goes to the end of the queue.
        FeedbackQueueSimulator z = new FeedbackQueueSimulator();
        z.setLevels(1);
        z.setLevel(0, 20, 3, 0);
        z.spawn(0, 0, 30, 0, 1);
        z.spawn(0, 0, 30, 0, 1);
        z.run(3);
        Check.due("13: queued", z.queued(0, 1), 0);
        Check.due("13: level", z.property(0, 2), 0);
        Check.due("13: budget", z.property(0, 3), 0);
    }

    private static void giveUps() {
        FeedbackQueueSimulator x = new FeedbackQueueSimulator();
        x.setLevels(2);
        x.setLevel(0, 10, 5, 0);
        x.setOption(3, 2);
        // The budgets at the give-ups: 2, 4 (late), and 6, which is past the allotment: not late.
        x.spawn(0, 0, 2, -1, 20);
        x.run(2);
        Check.due("13: yield", x.state(0), 0);
        Check.due("13: give-ups", x.property(0, 9), 1);
        Check.due("13: not late", x.property(0, 10), 0);
        x.run(2);
        Check.due("13: late", x.property(0, 10), 1);
        x.run(1);
        Check.due("13: demoted within a unit", x.property(0, 2), 1);
        Check.due("13: ready", x.state(0), 0);
        x.run(1);
        Check.due("13: give-ups", x.property(0, 9), 3);
        Check.due("13: not late", x.property(0, 10), 1);
        giveUpWithDemotion();
        lenientGiveUps();
        operations();
    }

    private static void giveUpWithDemotion() {
        FeedbackQueueSimulator x = new FeedbackQueueSimulator();
        x.spawn(0, 0, 4, -1, 2);
        x.spawn(0, 0, 4, 2, 2);
        x.run(8);
        for (int p = 0; p < 2; p++) {
            Check.due("13: demoted", x.property(p, 2), 1);
            Check.due("13: budget", x.property(p, 3), 0);
            Check.due("13: gave up", x.property(p, 9), 1);
            Check.due("13: not late, for the budget became 0", x.property(p, 10), 0);
        }
        Check.due("13: queued at the new level", x.queued(1, 0), 0);
        Check.due("13: waiting", x.state(1), 2);
    }

    private static void lenientGiveUps() {
        FeedbackQueueSimulator x = new FeedbackQueueSimulator();
        x.setOption(5, 0);
        x.spawn(0, 0, 3, -1, 10);
        x.run(27);
        Check.due("13: never demoted", x.property(0, 2), 0);
        Check.due("13: budget", x.property(0, 3), 0);
        Check.due("13: late each time, by the budget before it became 0", x.property(0, 10), 9);
        FeedbackQueueSimulator y = new FeedbackQueueSimulator();
        y.spawn(0, 0, 3, -1, 10);
        y.run(27);
        Check.due("13: strict", y.property(0, 2), 2);
        Check.due("13: strict: 3 and 6 of 4, 9 of 8 ..", y.property(0, 9), 9);
    }

    private static void operations() {
        FeedbackQueueSimulator x = new FeedbackQueueSimulator();
        x.spawn(0, 0, 1, 3, 2);
        x.tick();
        for (int t = 1; t < 4; t++) {
            Check.due("13: waits at " + t, x.tick(), -1);
        }
        Check.due("13: the operation of 3 ticks ended at 4", x.tick(), 0);
        Check.due("13: time in an operation is no time in a queue", x.property(0, 6), 0);
    }

    private static void properties() {
        FeedbackQueueSimulator x = new FeedbackQueueSimulator();
        x.run(3);
        x.spawn(0, 0, 6, 0, 1);
        x.spawn(2, 1, 3, 1, 2);
        x.run(4);
        int[] first = {0, 0, 0, 2, 0, 2, 2, 3, -1, 0, 0, 0};
        int[] second = {2, 1, 0, 2, 0, 2, 2, 5, -1, 0, 0, 0};
        for (int what = 0; what < 12; what++) {
            Check.due("17: process 0, " + what, x.property(0, what), first[what]);
            Check.due("17: process 1, " + what, x.property(1, what), second[what]);
        }
        x.tick();
        Check.due("17: remaining quantum", x.property(0, 4), 1);
        x.run(2);
        Check.due("17: demotions", x.property(0, 11), 1);
        Check.due("17: give-ups", x.property(1, 9), 1);
        Check.due("17: late", x.property(1, 10), 1);
        x.run(10);
        Check.due("17: end", x.property(0, 8), 13);
        Check.due("17: end", x.property(1, 8), 15);
        Check.failsIndex("17: process 2", () -> x.property(2, 0));
        Check.failsIndex("17: index before argument", () -> x.property(-1, 12));
        Check.failsArgument("17: 12", () -> x.property(1, 12));
        Check.failsArgument("17: -1", () -> x.property(1, -1));
    }

    private static void queues() {
        FeedbackQueueSimulator x = new FeedbackQueueSimulator();
        for (int p = 0; p < 10; p++) {
            x.spawn(0, 0, 30, 0, 1);
        }
        Check.due("18: all", x.queueLength(0), 10);
        Check.due("19: last", x.queued(0, 9), 9);
        x.tick();
        Check.due("18: all but the current one", x.queueLength(0), 9);
        Check.due("19: first", x.queued(0, 0), 1);
        Check.failsIndex("19: place 9", () -> x.queued(0, 9));
        Check.failsIndex("19: place -1", () -> x.queued(0, -1));
        Check.failsIndex("19: empty queue", () -> x.queued(1, 0));
        Check.failsIndex("19: level 3", () -> x.queued(3, 0));
        Check.failsIndex("19: level -1", () -> x.queued(-1, 0));
        Check.failsIndex("18: level 3", () -> x.queueLength(3));
        Check.failsIndex("18: level -1", () -> x.queueLength(-1));
        x.run(39);
        Check.due("18: level 1", x.queueLength(1), 10);
        Check.due("18: level 0", x.queueLength(0), 0);
    }

    private static void past() {
        FeedbackQueueSimulator x = new FeedbackQueueSimulator();
        Check.failsIndex("20: no tick yet", () -> x.history(0));
        x.spawn(0, 0, 2, 0, 1);
        x.run(3);
        Check.due("20: idle", x.history(0), -1);
        Check.due("20: ran", x.history(1), 0);
        Check.due("20: ran", x.history(2), 0);
        Check.failsIndex("20: before the first", () -> x.history(3));
        Check.failsIndex("20: -1", () -> x.history(-1));
        x.run(30);
        Check.due("20: the oldest of 32", x.history(31), 0);
        Check.due("20: the next", x.history(30), -1);
        Check.failsIndex("20: 32", () -> x.history(32));
        x.tick();
        Check.due("20: forgotten", x.history(31), -1);
    }
}
