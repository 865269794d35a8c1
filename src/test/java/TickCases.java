/** The seven parts of a tick, as the description tells them. */
final class TickCases {
    private static final int DESCRIPTION = Sentences.DESCRIPTION;

    private TickCases() {
    }

    static void tell(Sentences s) {
        s.test(DESCRIPTION, "A tick. The clock is 0 at first.",
                () -> Check.due("clock", new FeedbackQueueSimulator().clock(), 0));
        s.test(DESCRIPTION, "A tick at clock t consists of the following parts, in this order:", TickCases::order);
        waking(s);
        boost(s);
        decay(s);
        preemption(s);
        dispatch(s);
        running(s);
        settling(s);
        givingUp(s);
    }

    private static void order() {
        // An operation ends where a boost takes place: level 1 with the woken process goes before level 2.
        FeedbackQueueSimulator x = new FeedbackQueueSimulator();
        x.setLevel(0, 1, 1, 0);
        x.setLevel(1, 1, 1, 0);
        x.setLevel(2, 1, 40, 0);
        x.spawn(0, 0, 1, 6, 2);
        x.spawn(0, 0, 30, 0, 1);
        x.spawn(0, 0, 30, 0, 1);
        x.setOption(0, 7);
        Check.ran(x, 0, 1, 2, 1, 2, 1, 2, 0);
        Check.due("behind it", x.queued(0, 0), 1);
        Check.due("behind it", x.queued(0, 1), 2);
        // A decay goes before a dispatch: both ratios are 0 when the choice is made.
        FeedbackQueueSimulator y = new FeedbackQueueSimulator();
        y.setLevel(0, 1, 40, 1);
        y.spawn(0, 0, 30, 0, 1);
        y.run(2);
        y.spawn(1, 0, 30, 0, 1);
        y.setOption(1, 2);
        y.setOption(2, 0);
        Check.ran(y, 0);
        // A boost goes before a preemption: the current process is at level 0 by then.
        FeedbackQueueSimulator z = new FeedbackQueueSimulator();
        z.spawn(0, 0, 30, 0, 1);
        z.run(5);
        z.spawn(0, 0, 30, 0, 1);
        z.setOption(0, 5);
        Check.ran(z, 0);
        Check.due("no preemption", z.total(2), 0);
        // The end of an operation goes before a preemption.
        FeedbackQueueSimulator w = new FeedbackQueueSimulator();
        w.spawn(0, 0, 1, 5, 2);
        w.spawn(0, 0, 30, 0, 1);
        Check.ran(w, 0, 1, 1, 1, 1, 1, 0, 1);
        Check.due("one preemption", w.total(2), 1);
    }

    private static void waking(Sentences s) {
        s.test(DESCRIPTION, "Every waiting process whose operation ends at clock t becomes ready, in the order of process"
                + " numbers.", () -> {
            for (int n : new int[] {1, 2, 29, 30}) {
                FeedbackQueueSimulator x = new FeedbackQueueSimulator();
                x.spawn(0, 0, 1, n, 2);
                Check.due("idle ticks with an operation of " + n, x.run(1 + n), n);
                Check.due("waiting still", x.state(0), 2);
                Check.ran(x, 0);
            }
            // The higher number begins its operation first; both end at clock 5.
            FeedbackQueueSimulator x = new FeedbackQueueSimulator();
            Check.good(x, "spawn00=c1yc1i2c1;spawn00=c1i3c1;", 2);
            Check.ran(x, 0, 1, 0, -1, -1, 0, 1);
        });
        s.test(DESCRIPTION, "If it is held by a pin, its level and its budget become 0.", TickCases::pinnedWake);
        s.test(DESCRIPTION, "It is appended to the queue of its level.", () -> {
            FeedbackQueueSimulator x = new FeedbackQueueSimulator();
            x.spawn(0, 0, 1, 1, 2);
            x.tick();
            x.spawn(0, 0, 30, 0, 1);
            x.spawn(0, 0, 30, 0, 1);
            Check.ran(x, 1);
            Check.ran(x, 1);
            Check.due("first", x.queued(0, 0), 2);
            Check.due("behind it the woken one", x.queued(0, 1), 0);
            Check.due("and the one whose quantum is over", x.queued(0, 2), 1);
        });
    }

    private static void pinnedWake() {
        // At the give-up, process 0 is at level 1 with a budget of 1.
        for (int pin = -1; pin < 3; pin++) {
            FeedbackQueueSimulator x = new FeedbackQueueSimulator();
            x.spawn(0, 1, 5, 2, 3);
            x.run(5);
            if (pin >= 0) {
                x.pin(pin, 0);
            }
            x.run(2);
            Check.due("nothing before its end", x.property(0, 2), 1);
            Check.due("nothing before its end", x.property(0, 3), 1);
            x.tick();
            Check.due("level, pin " + pin, x.property(0, 2), pin < 0 ? 1 : 0);
            Check.due("budget, pin " + pin, x.property(0, 3), pin < 0 ? 2 : 1);
            Check.due("no demotion is taken back", x.property(0, 11), 1);
        }
        FeedbackQueueSimulator y = new FeedbackQueueSimulator();
        y.spawn(0, 1, 5, 2, 3);
        y.pin(0, 0);
        y.run(7);
        y.unpin(0);
        y.tick();
        Check.due("held no longer", y.property(0, 2), 1);
    }

    private static void boost(Sentences s) {
        s.test(DESCRIPTION, "If there is a boost period and t is a positive multiple of it, a boost takes place: all processes"
                + " that are ready, current or waiting get level 0 and budget 0;", TickCases::boosted);
        s.test(DESCRIPTION, "the queues are joined to the queue of level 0, in the order of levels;", TickCases::joined);
        s.test(DESCRIPTION, "and the remaining quantum of the current process, if there is one, becomes the quantum of"
                + " level 0.", TickCases::boostedQuantum);
    }

    private static void boosted() {
        FeedbackQueueSimulator none = new FeedbackQueueSimulator();
        none.setOption(0, 3);
        none.run(3);
        Check.due("not at clock 0, 1, 2", none.total(3), 0);
        none.tick();
        Check.due("at clock 3, without a process", none.total(3), 1);
        // The states 0 to 4 have the processes 0 to 4; the boost is at the next tick.
        FeedbackQueueSimulator x = States.BUSY.get();
        int[] levels = levelsAndBudgets(x);
        int sum = 0;
        for (int p = 0; p < 3; p++) {
            sum += levels[2 * p] * 100 + levels[2 * p + 1];
        }
        Check.due("there is something to lose", sum > 100 ? 1 : 0, 1);
        x.setOption(0, x.clock());
        int running = x.tick();
        int[] after = levelsAndBudgets(x);
        for (int p = 0; p < 5; p++) {
            Check.due("level of " + p, after[2 * p], p < 3 ? 0 : levels[2 * p]);
            Check.due("budget of " + p, after[2 * p + 1], p == running ? 1 : p < 3 ? 0 : levels[2 * p + 1]);
        }
        FeedbackQueueSimulator other = States.BUSY.get();
        other.setOption(0, other.clock() + 1);
        other.tick();
        Check.due("a clock before the period", other.total(3), 0);
    }

    private static int[] levelsAndBudgets(FeedbackQueueSimulator x) {
        int[] row = new int[10];
        for (int p = 0; p < 5; p++) {
            row[2 * p] = x.property(p, 2);
            row[2 * p + 1] = x.property(p, 3);
        }
        return row;
    }

    private static void joined() {
        // 0 and 1 go to level 2, 2 to level 1, 3 and 4 are new; none is current.
        FeedbackQueueSimulator x = new FeedbackQueueSimulator();
        x.setLevel(0, 1, 1, 0);
        x.setLevel(1, 1, 1, 0);
        x.spawn(0, 0, 30, 0, 1);
        x.spawn(0, 0, 30, 0, 1);
        x.run(4);
        x.spawn(0, 0, 30, 0, 1);
        x.tick();
        x.spawn(0, 0, 30, 0, 1);
        x.spawn(0, 0, 30, 0, 1);
        Check.due("level 2", x.queueLength(2), 2);
        Check.due("level 1", x.queueLength(1), 1);
        x.setOption(0, 5);
        Check.ran(x, 3);
        int[] due = {4, 2, 0, 1};
        Check.due("the rest", x.queueLength(0), 4);
        for (int k = 0; k < 4; k++) {
            Check.due("place " + k, x.queued(0, k), due[k]);
        }
        // The one that ran was spent at once: it is the only one below.
        Check.due("level 1 behind it", x.queueLength(1), 1);
        Check.due("level 2 behind it", x.queueLength(2), 0);
    }

    private static void boostedQuantum() {
        FeedbackQueueSimulator x = new FeedbackQueueSimulator();
        x.setLevel(0, 7, 4, 0);
        x.spawn(0, 0, 30, 0, 1);
        x.run(7);
        Check.due("level", x.property(0, 2), 1);
        Check.due("one tick of four is left", x.property(0, 4), 1);
        x.setOption(0, 7);
        x.tick();
        Check.due("seven, less the tick that ran", x.property(0, 4), 6);
        FeedbackQueueSimulator none = new FeedbackQueueSimulator();
        none.spawn(0, 0, 2, 0, 3);
        none.run(2);
        none.setOption(0, 2);
        none.tick();
        Check.due("no current process: the dispatch gives the quantum", none.property(0, 4), 1);
    }

    private static void decay(Sentences s) {
        s.test(DESCRIPTION, "If there is a decay period and t is a positive multiple of it, the usage of each user is multiplied"
                + " by factor / 16, where factor is the decay factor and the division and the product are computed as"
                + " floats.", () -> {
            FeedbackQueueSimulator x = new FeedbackQueueSimulator();
            for (int user = 0; user < 4; user++) {
                x.spawn(user, 0, 1 + user, 0, 1);
            }
            x.run(10);
            x.setOption(1, 5);
            x.setOption(2, 11);
            float[] usage = {1.0f, 2.0f, 3.0f, 4.0f};
            for (int t = 10; t < 80; t++) {
                x.tick();
                Check.due("decays at " + t, x.total(4), (t - 5) / 5);
                for (int user = 0; user < 4; user++) {
                    usage[user] = t % 5 == 0 ? usage[user] * (11.0f / 16.0f) : usage[user];
                    Check.due("usage of " + user + " at " + t, x.ratioBits(user), Float.floatToIntBits(usage[user]));
                }
            }
            FeedbackQueueSimulator first = new FeedbackQueueSimulator();
            first.setOption(1, 1);
            first.tick();
            Check.due("not at clock 0", first.total(4), 0);
        });
    }

    private static void preemption(Sentences s) {
        s.test(DESCRIPTION, "If there is a current process and the queue of a level with a lower number than its own is not"
                + " empty, it is preempted: it becomes the first process of the queue of its level.", () -> {
            FeedbackQueueSimulator x = new FeedbackQueueSimulator();
            x.spawn(0, 0, 30, 0, 1);
            x.spawn(0, 0, 30, 0, 1);
            x.run(9);
            Check.due("current at level 1", x.state(0), 1);
            x.spawn(0, 0, 1, 0, 1);
            Check.ran(x, 2);
            Check.due("preempted", x.total(2), 1);
            Check.due("first", x.queued(1, 0), 0);
            Check.due("before the other", x.queued(1, 1), 1);
            Check.due("remaining quantum", x.property(0, 4), 0);
            Check.due("budget", x.property(0, 3), 1);
            preemptedBeforeTwo();
            // The same level and a higher one preempt nobody.
            FeedbackQueueSimulator y = new FeedbackQueueSimulator();
            y.setLevel(0, 2, 2, 0);
            y.spawn(0, 0, 30, 0, 1);
            y.run(2);
            y.spawn(0, 0, 30, 0, 1);
            y.spawn(0, 0, 30, 0, 1);
            Check.ran(y, 1, 1, 2, 2);
            Check.due("none", y.total(2), 0);
            // A free processor cannot be preempted.
            FeedbackQueueSimulator z = new FeedbackQueueSimulator();
            z.run(3);
            z.spawn(0, 0, 1, 0, 1);
            Check.ran(z, 0);
            Check.due("none", z.total(2), 0);
        });
    }

    private static void preemptedBeforeTwo() {
        FeedbackQueueSimulator x = new FeedbackQueueSimulator();
        for (int p = 0; p < 3; p++) {
            x.spawn(0, 0, 30, 0, 1);
        }
        x.run(13);
        Check.due("current at level 1", x.state(0), 1);
        x.spawn(0, 0, 1, 0, 1);
        Check.ran(x, 3);
        for (int place = 0; place < 3; place++) {
            Check.due("place " + place, x.queued(1, place), place);
        }
    }

    private static void dispatch(Sentences s) {
        s.test(DESCRIPTION, "If there is no current process and some queue is not empty, a process is dispatched from the"
                + " first level whose queue is not empty.", () -> {
            Check.ran(new FeedbackQueueSimulator(), -1);
            // Alone at level l of 5, then with another one at level 0.
            for (int level = 0; level < 5; level++) {
                FeedbackQueueSimulator x = new FeedbackQueueSimulator();
                x.setLevels(5);
                for (int k = 0; k < 5; k++) {
                    x.setLevel(k, 1, 1, 0);
                }
                x.spawn(0, 0, 30, 0, 1);
                for (int k = 0; k < level; k++) {
                    x.tick();
                }
                Check.due("level", x.queued(level, 0), 0);
                Check.ran(x, 0);
                x.spawn(0, 0, 1, 0, 1);
                Check.ran(x, 1, 0);
            }
        });
        s.test(DESCRIPTION, "By policy 0, it is the first of the queue.", () -> {
            FeedbackQueueSimulator x = new FeedbackQueueSimulator();
            x.setShare(0, 9);
            x.spawn(3, 0, 1, 0, 1);
            x.spawn(0, 0, 1, 0, 1);
            Check.ran(x, 0, 1);
        });
        s.test(DESCRIPTION, "By policy 1, it is, among the processes of the queue, the first one of the user with the least"
                + " ratio; of several such users, the one with the lowest number.", TickCases::fair);
        s.test(DESCRIPTION, "It leaves the queue and becomes current, with the quantum of the level as its remaining"
                + " quantum.", () -> {
            for (int quantum = 2; quantum <= 20; quantum++) {
                FeedbackQueueSimulator x = new FeedbackQueueSimulator();
                x.setLevel(0, quantum, 40, 0);
                x.spawn(0, 0, 30, 0, 1);
                x.tick();
                Check.due("queue", x.queueLength(0), 0);
                Check.due("current", x.state(0), 1);
                Check.due("remaining", x.property(0, 4), quantum - 1);
            }
        });
        s.test(DESCRIPTION, "This is a context switch unless the process that ran most recently, in whatever earlier tick,"
                + " is the same one.", TickCases::contextSwitches);
    }

    private static void fair() {
        // One process is chosen without a choice.
        FeedbackQueueSimulator one = new FeedbackQueueSimulator();
        one.setLevel(0, 1, 40, 1);
        one.spawn(3, 0, 1, 0, 1);
        Check.ran(one, 0);
        // All ratios are 0: users 1, 2, 3 in this order, each with its first process.
        FeedbackQueueSimulator x = new FeedbackQueueSimulator();
        x.setLevel(0, 1, 40, 1);
        for (int user : new int[] {3, 2, 1, 3, 2, 1}) {
            x.spawn(user, 0, 30, 0, 1);
        }
        Check.ran(x, 2, 1, 0, 5, 4, 3, 2);
        // Equal ratios of different weights: then the lower user goes first.
        FeedbackQueueSimulator y = new FeedbackQueueSimulator();
        y.setLevel(0, 1, 40, 1);
        y.setShare(0, 3);
        y.setShare(1, 6);
        y.spawn(1, 0, 30, 0, 1);
        y.spawn(0, 0, 30, 0, 1);
        // (user 0, user 1): 0 0, 1/3 0, 1/3 1/6, 1/3 2/6, 2/3 2/6, 2/3 3/6, 2/3 4/6, 3/3 4/6
        Check.ran(y, 1, 0, 0, 1, 0, 0, 1, 0);
        // The user with the least ratio has no process in the queue.
        FeedbackQueueSimulator z = new FeedbackQueueSimulator();
        z.setLevel(0, 1, 40, 1);
        z.spawn(2, 0, 30, 0, 1);
        z.run(9);
        z.spawn(2, 0, 30, 0, 1);
        Check.ran(z, 0, 1);
    }

    private static void contextSwitches() {
        FeedbackQueueSimulator x = new FeedbackQueueSimulator();
        x.run(3);
        x.spawn(0, 0, 1, 30, 3);
        x.tick();
        Check.due("the first one ever", x.total(1), 1);
        x.run(30);
        Check.ran(x, 0);
        Check.due("the same one behind 30 idle ticks", x.total(1), 1);
        x.spawn(0, 0, 1, 0, 1);
        Check.ran(x, 1);
        Check.due("another one", x.total(1), 2);
        x.run(29);
        Check.ran(x, 0);
        Check.due("there and back, with idle ticks between", x.total(1), 3);
        FeedbackQueueSimulator y = new FeedbackQueueSimulator();
        y.setLevels(1);
        y.setLevel(0, 1, 1, 0);
        y.spawn(0, 0, 30, 0, 1);
        y.run(20);
        Check.due("20 dispatches of the same one", y.total(1), 1);
    }

    private static void running(Sentences s) {
        s.test(DESCRIPTION, "If there is still no current process, the tick is idle.", () -> {
            FeedbackQueueSimulator x = new FeedbackQueueSimulator();
            Check.ran(x, -1);
            Check.due("without a process", x.total(0), 1);
            x.spawn(0, 0, 1, 2, 2);
            Check.ran(x, 0, -1, -1, 0, -1);
            Check.due("waiting and finished ones do not run", x.total(0), 4);
        });
        s.test(DESCRIPTION, "Otherwise the current process runs: it computes for one tick, its remaining quantum decreases by 1,"
                + " its budget increases by 1, the usage of its user increases by 1.0f, and the tick is charged to the entry"
                + " of the usage table for its user and its level.", () -> {
            FeedbackQueueSimulator x = new FeedbackQueueSimulator();
            x.setLevel(0, 20, 40, 0);
            x.spawn(2, 0, 30, 0, 1);
            for (int t = 1; t < 20; t++) {
                Check.ran(x, 0);
                Check.due("ran", x.property(0, 5), t);
                Check.due("remaining", x.property(0, 4), 20 - t);
                Check.due("budget", x.property(0, 3), t);
                Check.due("usage", x.ratioBits(2), Float.floatToIntBits((float) t));
                Check.due("entries", x.usageEntries(), 1);
                Check.due("charged", x.usageOf(2, 0), t);
            }
        });
        s.test(DESCRIPTION, "Every process that is in a queue during this part waits for one tick.", () -> {
            FeedbackQueueSimulator x = new FeedbackQueueSimulator();
            for (int p = 0; p < 10; p++) {
                x.spawn(0, 0, 30, 0, 1);
            }
            x.tick();
            for (int p = 0; p < 10; p++) {
                Check.due("process " + p, x.property(p, 6), p == 0 ? 0 : 1);
            }
            x.tick();
            Check.due("in the queue only behind this part", x.queued(0, 8), 9);
            Check.due("in the queue only behind this part", x.property(0, 6), 0);
            // Woken and preempted processes are in a queue by then.
            FeedbackQueueSimulator y = new FeedbackQueueSimulator();
            y.spawn(0, 0, 1, 5, 2);
            y.spawn(0, 0, 30, 0, 1);
            y.run(7);
            Check.due("preempted", y.property(1, 6), 2);
            FeedbackQueueSimulator z = new FeedbackQueueSimulator();
            z.setLevel(0, 20, 40, 0);
            z.spawn(0, 0, 1, 5, 2);
            z.spawn(0, 0, 30, 0, 1);
            z.run(6);
            Check.due("an operation is no wait", z.property(0, 6), 0);
            z.tick();
            Check.due("woken", z.property(0, 6), 1);
        });
    }

    private static void settling(Sentences s) {
        s.test(DESCRIPTION, "The clock becomes t + 1.", () -> {
            FeedbackQueueSimulator x = new FeedbackQueueSimulator();
            x.tick();
            Check.due("idle", x.clock(), 1);
            x.spawn(0, 0, 1, 0, 1);
            x.tick();
            Check.due("not idle", x.clock(), 2);
        });
        s.test(DESCRIPTION, "If a process ran and has finished its last unit, it is finished, with t + 1 as its end.", () -> {
            FeedbackQueueSimulator x = new FeedbackQueueSimulator();
            x.spawn(0, 0, 1, 0, 1);
            x.tick();
            Check.due("state", x.state(0), 3);
            Check.due("end", x.property(0, 8), 1);
            // Where the allotment is over too, nothing else happens.
            FeedbackQueueSimulator y = new FeedbackQueueSimulator();
            y.spawn(0, 0, 4, 0, 1);
            y.run(4);
            Check.due("state", y.state(0), 3);
            Check.due("level", y.property(0, 2), 0);
            Check.due("budget", y.property(0, 3), 4);
            Check.due("demotions", y.property(0, 11), 0);
            Check.due("remaining quantum", y.property(0, 4), 0);
            FeedbackQueueSimulator z = new FeedbackQueueSimulator();
            z.spawn(0, 0, 2, 0, 2);
            z.run(3);
            Check.due("one tick before", z.state(0), 1);
            Check.due("no end yet", z.property(0, 8), -1);
        });
        s.test(DESCRIPTION, "Otherwise, if its budget is at least the allotment of its level, its budget becomes 0, and it is"
                + " demoted to the next level, if there is one.", TickCases::allotmentSpent);
        s.test(DESCRIPTION, "Otherwise, if its budget became 0 by the rule above, or its remaining quantum is 0, it is appended"
                + " to the queue of its level.", () -> {
            FeedbackQueueSimulator x = new FeedbackQueueSimulator();
            x.setLevels(1);
            x.setLevel(0, 3, 5, 0);
            x.spawn(0, 0, 30, 0, 1);
            x.spawn(0, 0, 30, 0, 1);
            // By the quantum behind 3, by the budget behind 2 more, by the quantum behind 3 more.
            Check.ran(x, 0, 0, 0, 1, 1, 1, 0, 0, 1, 1, 0, 0, 0, 1);
            // A unit without a give-up that ends with the quantum makes no difference.
            FeedbackQueueSimulator y = new FeedbackQueueSimulator();
            y.spawn(0, 0, 2, 0, 3);
            y.spawn(0, 0, 2, 0, 3);
            Check.ran(y, 0, 0, 1, 1, 0, 0);
            Check.due("no give-up", y.property(0, 9), 0);
        });
        s.test(DESCRIPTION, "Otherwise it stays current.", () -> {
            FeedbackQueueSimulator x = new FeedbackQueueSimulator();
            x.setLevel(0, 3, 4, 0);
            x.spawn(0, 0, 1, 0, 20);
            x.run(2);
            Check.due("one tick of quantum and two of budget are left", x.state(0), 1);
            Check.due("its number", x.property(0, 4), 1);
        });
    }

    private static void allotmentSpent() {
        // With 3 ticks used, an allotment of 4 or less is spent by the next tick, one of 5 is not.
        for (int allotment = 1; allotment <= 6; allotment++) {
            FeedbackQueueSimulator x = new FeedbackQueueSimulator();
            x.setLevel(0, 20, 40, 0);
            x.spawn(0, 0, 30, 0, 1);
            x.run(3);
            x.setLevel(0, 20, allotment, 0);
            Check.due("not before it runs", x.property(0, 2), 0);
            x.tick();
            Check.due("level with " + allotment, x.property(0, 2), allotment <= 4 ? 1 : 0);
            Check.due("budget with " + allotment, x.property(0, 3), allotment <= 4 ? 0 : 4);
            Check.due("demotions with " + allotment, x.property(0, 11), allotment <= 4 ? 1 : 0);
        }
        // At the last of 1 to 5 levels the budget begins anew.
        for (int levels = 1; levels <= 5; levels++) {
            FeedbackQueueSimulator x = new FeedbackQueueSimulator();
            x.setLevels(levels);
            for (int level = 0; level < levels; level++) {
                x.setLevel(level, 20, 2, 0);
            }
            x.spawn(0, 0, 30, 0, 1);
            for (int k = 1; k <= 7; k++) {
                x.run(2);
                Check.due("level", x.property(0, 2), Math.min(k, levels - 1));
                Check.due("budget", x.property(0, 3), 0);
                Check.due("demotions", x.property(0, 11), Math.min(k, levels - 1));
            }
        }
    }

    private static void givingUp(Sentences s) {
        s.test(DESCRIPTION, "Whether or not that happened, if it has finished the computation of a unit with a give-up, it gives"
                + " up the processor:", () -> {
            // Behind 3 ticks the budget stays, behind 4 it becomes 0 and the process goes to level 1.
            for (int cpu = 3; cpu <= 4; cpu++) {
                for (int io : new int[] {-1, 1}) {
                    FeedbackQueueSimulator x = new FeedbackQueueSimulator();
                    x.spawn(0, 0, cpu, io, 2);
                    x.run(cpu);
                    Check.due("gave up", x.property(0, 9), 1);
                    Check.due("state", x.state(0), io < 0 ? 0 : 2);
                    Check.due("level", x.property(0, 2), cpu - 3);
                    Check.due("remaining quantum", x.property(0, 4), 0);
                }
            }
            FeedbackQueueSimulator none = new FeedbackQueueSimulator();
            none.spawn(0, 0, 1, 0, 2);
            none.tick();
            Check.due("a unit without a give-up", none.state(0), 1);
            Check.due("a unit without a give-up", none.property(0, 9), 0);
        });
        s.test(DESCRIPTION, "the give-up is late if the budget did not become 0 by the preceding rule in this tick and the"
                + " allotment of its level minus its budget is at most the late margin;", TickCases::late);
        s.test(DESCRIPTION, "with lenient accounting its budget becomes 0;", () -> {
            for (int accounting = 0; accounting <= 1; accounting++) {
                for (int io : new int[] {-1, 1}) {
                    FeedbackQueueSimulator x = new FeedbackQueueSimulator();
                    x.setOption(5, accounting);
                    x.spawn(0, 0, 3, io, 9);
                    x.run(3);
                    Check.due("budget", x.property(0, 3), accounting * 3);
                    Check.due("the lateness is that of the budget before", x.property(0, 10), 1);
                }
            }
            FeedbackQueueSimulator x = new FeedbackQueueSimulator();
            x.setOption(5, 0);
            x.spawn(0, 0, 30, 0, 1);
            x.run(2);
            Check.due("without a give-up it stays", x.property(0, 3), 2);
        });
        s.test(DESCRIPTION, "after a yield it is appended to the queue of its level, and with an operation of n ticks it waits,"
                + " and the operation ends at clock t + 1 + n.", () -> {
            FeedbackQueueSimulator x = new FeedbackQueueSimulator();
            x.spawn(0, 0, 1, -1, 9);
            x.spawn(0, 0, 1, -1, 9);
            Check.ran(x, 0);
            Check.due("behind the other", x.queued(0, 1), 0);
            Check.ran(x, 1, 0, 1, 0, 1, 0);
            Check.due("behind the fourth one the level is 1", x.queued(1, 0), 0);
            for (int n = 1; n <= 30; n++) {
                FeedbackQueueSimulator y = new FeedbackQueueSimulator();
                y.spawn(0, 0, 2, n, 2);
                y.run(2);
                Check.due("idle until " + (2 + n), y.run(n), n);
                Check.ran(y, 0);
            }
        });
    }

    private static void late() {
        // Allotments of 4 and 8, a margin of 1 and 9: level 1 is within 9 with a budget of 0.
        int[][] due = {{1, 0}, {2, 0}, {3, 1}, {4, 0}, {5, 0}};
        for (int[] row : due) {
            FeedbackQueueSimulator x = new FeedbackQueueSimulator();
            x.spawn(0, 0, row[0], -1, 2);
            x.run(row[0]);
            Check.due("late behind " + row[0] + " with a margin of 1", x.property(0, 10), row[1]);
        }
        for (int cpu = 1; cpu <= 12; cpu++) {
            FeedbackQueueSimulator x = new FeedbackQueueSimulator();
            x.setOption(3, 9);
            x.spawn(0, 0, cpu, -1, 2);
            x.run(cpu);
            Check.due("gave up", x.property(0, 9), 1);
            Check.due("late behind " + cpu + " with a margin of 9", x.property(0, 10), cpu == 4 || cpu == 12 ? 0 : 1);
        }
        // With a margin of 0 none is late: a budget at the allotment has become 0.
        for (int cpu = 1; cpu <= 12; cpu++) {
            FeedbackQueueSimulator x = new FeedbackQueueSimulator();
            x.setOption(3, 0);
            x.spawn(0, 0, cpu, -1, 2);
            x.run(cpu);
            Check.due("late behind " + cpu + " with a margin of 0", x.property(0, 10), 0);
        }
    }
}
