import java.util.function.Supplier;

/** Promises 13 to 20. */
final class QueryCases {
    private QueryCases() {
    }

    static void tell(Sentences s) {
        tick(s);
        run(s);
        s.test(15, "Returns the clock. Returns the clock.", () -> {
            FeedbackQueueSimulator x = new FeedbackQueueSimulator();
            Check.due("no tick yet", x.clock(), 0);
            x.run(200);
            x.tick();
            Check.due("behind 201 ticks", x.clock(), 201);
        });
        state(s);
        property(s);
        queueLength(s);
        queued(s);
        history(s);
    }

    private static void tick(Sentences s) {
        s.plain(13, "Simulation. Simulates one tick.");
        s.test(13, "Returns the process that ran, or -1 if the tick was idle.", () -> {
            FeedbackQueueSimulator x = new FeedbackQueueSimulator();
            Check.ran(x, -1);
            for (int p = 0; p < 10; p++) {
                x.spawn(0, 0, 1, 0, 1);
            }
            Check.ran(x, 0, 1, 2, 3, 4, 5, 6, 7, 8, 9, -1);
        });
    }

    private static void run(Sentences s) {
        s.plain(14, "Simulates ticks.");
        s.test(14, "ticks: the number of ticks, 1 to 200", () -> {
            Range.check(1, 200, Refusal.ARGUMENT, States.BUSY, (x, ticks) -> x.run(ticks));
            for (int ticks : new int[] {1, 2, 199, 200}) {
                FeedbackQueueSimulator x = new FeedbackQueueSimulator();
                x.run(ticks);
                Check.due("clock", x.clock(), ticks);
            }
        });
        s.test(14, "Returns the number of idle ticks among them.", () -> {
            FeedbackQueueSimulator x = new FeedbackQueueSimulator();
            Check.due("all", x.run(200), 200);
            x.spawn(0, 0, 10, 0, 20);
            Check.due("none", x.run(199), 0);
            Check.due("none in the last one", x.run(1), 0);
            Check.due("all again", x.run(1), 1);
        });
        s.test(14, "Throws IllegalArgumentException if the number is out of range", () -> {
            for (Supplier<FeedbackQueueSimulator> state : States.ALL) {
                Refusal.check(Refusal.ARGUMENT, state, x -> x.run(0));
                Refusal.check(Refusal.ARGUMENT, state, x -> x.run(201));
                Refusal.check(Refusal.ARGUMENT, state, x -> x.run(-1));
            }
        });
    }

    private static void state(Sentences s) {
        s.plain(16, "Returns the state of a process.");
        s.test(16, "process: the process",
                () -> Range.check(0, 9, Refusal.INDEX, States.FULL, (x, process) -> x.state(process)));
        s.test(16, "Returns the state, 0 to 4.", () -> {
            FeedbackQueueSimulator x = States.BUSY.get();
            for (int p = 0; p < 5; p++) {
                Check.due("state", x.state(p), p);
            }
        });
        s.test(16, "Throws IndexOutOfBoundsException if there is no such process", () -> {
            Refusal.check(Refusal.INDEX, States.FRESH, x -> x.state(0));
            Refusal.check(Refusal.INDEX, States.FRESH, x -> x.state(-1));
            Refusal.check(Refusal.INDEX, States.BUSY, x -> x.state(5));
            Refusal.check(Refusal.INDEX, States.FULL, x -> x.state(10));
        });
    }

    private static void property(Sentences s) {
        s.plain(17, "Returns a property of a process.");
        s.test(17, "process: the process",
                () -> Range.check(0, 4, Refusal.INDEX, States.BUSY, (x, process) -> x.property(process, 11)));
        s.test(17, "what: 0 for its user, 1 for its kind, 2 for its level, 3 for its budget,", () -> {
            FeedbackQueueSimulator x = new FeedbackQueueSimulator();
            x.spawn(0, 0, 5, 0, 2);
            x.spawn(3, 1, 5, 0, 2);
            int[][] fresh = {{0, 0, 0, 0}, {3, 1, 0, 0}};
            int[][] later = {{0, 0, 1, 1}, {3, 1, 1, 0}};
            for (int p = 0; p < 2; p++) {
                for (int what = 0; what < 4; what++) {
                    Check.due("at first " + what, x.property(p, what), fresh[p][what]);
                }
            }
            x.run(9);
            for (int p = 0; p < 2; p++) {
                for (int what = 0; what < 4; what++) {
                    Check.due("behind 9 ticks " + what, x.property(p, what), later[p][what]);
                }
            }
        });
        s.test(17, "4 for its remaining quantum, which is 0 if it is not current,", () -> {
            FeedbackQueueSimulator x = States.BUSY.get();
            for (int p = 0; p < 5; p++) {
                Check.due("state " + p, x.property(p, 4) > 0 ? 1 : 0, p == 1 ? 1 : 0);
            }
            FeedbackQueueSimulator y = new FeedbackQueueSimulator();
            y.setLevel(0, 20, 40, 0);
            y.spawn(0, 0, 30, 0, 2);
            Check.due("ready", y.property(0, 4), 0);
            y.tick();
            Check.due("the greatest", y.property(0, 4), 19);
            y.run(18);
            Check.due("the least", y.property(0, 4), 1);
            y.kill(0);
            Check.due("killed", y.property(0, 4), 0);
        });
        counts(s);
        refusedProperties(s);
    }

    private static void counts(Sentences s) {
        s.test(17, "5 for the ticks that it ran, 6 for the ticks that it waited in queues,", () -> {
            FeedbackQueueSimulator x = new FeedbackQueueSimulator();
            x.spawn(0, 0, 3, 0, 1);
            x.spawn(0, 0, 3, 0, 1);
            int[][] ran = {{0, 0}, {1, 0}, {2, 0}, {2, 1}, {2, 2}, {3, 2}, {3, 3}, {3, 3}};
            int[][] waited = {{0, 0}, {0, 1}, {0, 2}, {1, 2}, {2, 2}, {2, 3}, {2, 3}, {2, 3}};
            for (int t = 0; t < ran.length; t++) {
                for (int p = 0; p < 2; p++) {
                    Check.due("ran at " + t, x.property(p, 5), ran[t][p]);
                    Check.due("waited at " + t, x.property(p, 6), waited[t][p]);
                }
                x.tick();
            }
        });
        s.test(17, "7 for the clock when it ran for the first time, 8 for its end,", () -> {
            FeedbackQueueSimulator x = new FeedbackQueueSimulator();
            x.spawn(0, 0, 1, 5, 2);
            x.spawn(0, 0, 1, 0, 1);
            x.run(10);
            Check.due("clock 0", x.property(0, 7), 0);
            Check.due("not the second time", x.property(0, 8), 7);
            Check.due("clock 1", x.property(1, 7), 1);
            Check.due("end", x.property(1, 8), 2);
        });
        s.test(17, "9 for the number of its give-ups, 10 for the number of its late give-ups, 11 for the number of its"
                + " demotions to another level;", () -> {
            FeedbackQueueSimulator x = new FeedbackQueueSimulator();
            x.setLevel(1, 4, 4, 0);
            x.setLevel(2, 4, 4, 0);
            x.spawn(0, 0, 3, -1, 20);
            // Budgets at the give-ups: 3, 2, 1, 0, and so on; those behind 3 ticks are late.
            int[] demotions = {0, 1, 2, 2, 2, 2, 2, 2};
            for (int k = 0; k < 8; k++) {
                x.run(3);
                Check.due("give-ups", x.property(0, 9), k + 1);
                Check.due("late ones", x.property(0, 10), k / 4 + 1);
                Check.due("demotions", x.property(0, 11), demotions[k]);
            }
        });
        s.test(17, "7 and 8 are -1 if it did not run yet or did not end yet", () -> {
            FeedbackQueueSimulator x = new FeedbackQueueSimulator();
            x.spawn(0, 0, 2, 0, 1);
            x.spawn(0, 0, 1, 0, 1);
            Check.due("did not run", x.property(0, 7), -1);
            Check.due("did not end", x.property(0, 8), -1);
            x.tick();
            Check.due("ran", x.property(0, 7), 0);
            Check.due("did not end", x.property(0, 8), -1);
            x.tick();
            Check.due("ended", x.property(0, 8), 2);
            x.kill(1);
            Check.due("did not run but is killed", x.property(1, 7), -1);
            Check.due("killed", x.property(1, 8), 2);
        });
        s.test(17, "Returns the property.", () -> {
            FeedbackQueueSimulator x = new FeedbackQueueSimulator();
            x.spawn(2, 1, 1, 0, 1);
            int[] due = {2, 1, 0, 0, 0, 0, 0, -1, -1, 0, 0, 0};
            for (int what = 0; what < 12; what++) {
                Check.due("of a new process, " + what, x.property(0, what), due[what]);
            }
        });
    }

    private static void refusedProperties(Sentences s) {
        s.test(17, "Throws IndexOutOfBoundsException if there is no such process", () -> {
            Refusal.check(Refusal.INDEX, States.FRESH, x -> x.property(0, 0));
            Refusal.check(Refusal.INDEX, States.BUSY, x -> x.property(5, 0));
            Refusal.check(Refusal.INDEX, States.BUSY, x -> x.property(-1, 0));
            Refusal.check(Refusal.INDEX, States.BUSY, x -> x.property(5, 12));
            Refusal.check(Refusal.INDEX, States.FULL, x -> x.property(10, -1));
        });
        s.test(17, "Throws IllegalArgumentException if what is not from 0 to 11",
                () -> Range.check(0, 11, Refusal.ARGUMENT, States.BUSY, (x, what) -> x.property(4, what)));
    }

    private static void queueLength(Sentences s) {
        s.plain(18, "Returns the length of the queue of a level.");
        s.test(18, "level: the level", () -> {
            Range.check(0, 2, Refusal.INDEX, States.FULL, (x, level) -> x.queueLength(level));
            Range.check(0, 3, Refusal.INDEX, States.BUSY, (x, level) -> x.queueLength(level));
        });
        s.test(18, "Returns the number of processes in the queue.", () -> {
            FeedbackQueueSimulator x = new FeedbackQueueSimulator();
            Check.due("empty", x.queueLength(0), 0);
            for (int p = 0; p < 10; p++) {
                x.spawn(0, 0, 1, 0, 1);
            }
            Check.due("full", x.queueLength(0), 10);
            x.run(10);
            Check.due("empty again", x.queueLength(0), 0);
        });
        s.test(18, "Throws IndexOutOfBoundsException if there is no such level", () -> {
            Refusal.check(Refusal.INDEX, States.FRESH, x -> x.queueLength(3));
            Refusal.check(Refusal.INDEX, States.FRESH, x -> x.queueLength(-1));
            Refusal.check(Refusal.INDEX, States.BUSY, x -> x.queueLength(4));
        });
    }

    private static void queued(Sentences s) {
        s.plain(19, "Returns a process of a queue.");
        s.test(19, "level: the level",
                () -> Range.check(0, 0, Refusal.INDEX, QueryCases::oneQueue, (x, level) -> x.queued(level, 0)));
        s.test(19, "index: the place in the queue, 0 for the first one",
                () -> Range.check(0, 9, Refusal.INDEX, QueryCases::oneQueue, (x, index) -> x.queued(0, index)));
        s.test(19, "Returns the process.", () -> {
            FeedbackQueueSimulator x = oneQueue();
            for (int k = 0; k < 10; k++) {
                Check.due("place " + k, x.queued(0, k), k);
            }
        });
        s.test(19, "Throws IndexOutOfBoundsException if there is no such level or place", () -> {
            Refusal.check(Refusal.INDEX, States.FRESH, x -> x.queued(0, 0));
            Refusal.check(Refusal.INDEX, States.FRESH, x -> x.queued(3, 0));
            Refusal.check(Refusal.INDEX, QueryCases::oneQueue, x -> x.queued(2, 0));
            Refusal.check(Refusal.INDEX, QueryCases::oneQueue, x -> x.queued(0, 10));
            Refusal.check(Refusal.INDEX, QueryCases::oneQueue, x -> x.queued(3, 0));
            Refusal.check(Refusal.INDEX, QueryCases::oneQueue, x -> x.queued(-1, 10));
            Refusal.check(Refusal.INDEX, States.OVER, x -> x.queued(0, 0));
        });
    }

    private static void history(Sentences s) {
        s.plain(20, "Returns which process ran in a recent tick.");
        s.test(20, "The latest 32 ticks are known.", () -> {
            // Process k runs in tick k, for the first ten ticks.
            FeedbackQueueSimulator x = new FeedbackQueueSimulator();
            for (int p = 0; p < 10; p++) {
                x.spawn(0, 0, 1, 0, 1);
            }
            x.run(32);
            for (int back = 0; back < 32; back++) {
                Check.due("32 ticks, " + back + " back", x.history(back), back < 22 ? -1 : 31 - back);
            }
            x.tick();
            Check.due("the first one is forgotten", x.history(31), 1);
            Refusal.check(Refusal.INDEX, () -> ticked(33), y -> y.history(32));
            x.run(100);
            Check.due("all are", x.history(31), -1);
        });
        s.test(20, "back: 0 for the latest tick, 1 for the tick before it, and so on", () -> {
            FeedbackQueueSimulator x = new FeedbackQueueSimulator();
            x.spawn(0, 0, 1, 0, 1);
            x.spawn(0, 0, 1, 0, 1);
            x.run(2);
            Check.due("the latest", x.history(0), 1);
            Check.due("the one before it", x.history(1), 0);
        });
        s.test(20, "Returns the process, or -1 if the tick was idle.", () -> {
            FeedbackQueueSimulator x = new FeedbackQueueSimulator();
            x.tick();
            Check.due("idle", x.history(0), -1);
            x.spawn(0, 0, 1, 0, 1);
            x.tick();
            Check.due("process 0", x.history(0), 0);
        });
        s.test(20, "Throws IndexOutOfBoundsException if back is not from 0 to 31 or there was no such tick", () -> {
            Refusal.check(Refusal.INDEX, States.FRESH, x -> x.history(0));
            Refusal.check(Refusal.INDEX, States.FRESH, x -> x.history(-1));
            for (int ticks : new int[] {1, 2, 31, 32, 33, 64, 65}) {
                Range.check(0, Math.min(ticks, 32) - 1, Refusal.INDEX, () -> ticked(ticks), (x, back) -> x.history(back));
            }
        });
    }

    private static FeedbackQueueSimulator oneQueue() {
        FeedbackQueueSimulator x = new FeedbackQueueSimulator();
        for (int p = 0; p < 10; p++) {
            x.spawn(0, 0, 30, 0, 1);
        }
        return x;
    }

    private static FeedbackQueueSimulator ticked(int ticks) {
        FeedbackQueueSimulator x = new FeedbackQueueSimulator();
        x.spawn(0, 0, 30, 0, 2);
        x.run(ticks);
        return x;
    }
}
