import java.util.function.Supplier;

/** Promises 29 to 34. */
final class PredictionCases {
    private PredictionCases() {
    }

    static void tell(Sentences s) {
        predictEnd(s);
        starvation(s);
        bestBoost(s);
        unfairnessBits(s);
        gain(s);
        switchesWith(s);
    }

    private static void predictEnd(Sentences s) {
        s.test(29, "Predictions, which are made on a copy of the machine and do not change the machine itself.",
                PredictionCases::nothingChanges);
        s.plain(29, "Predicts the end of a process.");
        s.test(29, "process: the process",
                () -> Range.check(0, 9, Refusal.INDEX, States.FULL, (x, process) -> x.predictEnd(process, 400)));
        s.test(29, "limit: the number of ticks that are simulated, 1 to 400",
                () -> Range.check(1, 400, Refusal.ARGUMENT, States.BUSY, (x, limit) -> x.predictEnd(0, limit)));
        s.test(29, "Returns the clock at its end; -1 if it is killed or would not be finished after these ticks.",
                PredictionCases::predictedEnds);
        s.test(29, "Throws IndexOutOfBoundsException if there is no such process", () -> {
            Refusal.check(Refusal.INDEX, States.FRESH, x -> x.predictEnd(0, 1));
            Refusal.check(Refusal.INDEX, States.BUSY, x -> x.predictEnd(5, 400));
            Refusal.check(Refusal.INDEX, States.BUSY, x -> x.predictEnd(-1, 401));
            Refusal.check(Refusal.INDEX, States.FULL, x -> x.predictEnd(10, 0));
        });
        s.test(29, "Throws IllegalArgumentException if the limit is out of range", () -> {
            for (Supplier<FeedbackQueueSimulator> state : States.WITH_PROCESSES) {
                Refusal.check(Refusal.ARGUMENT, state, x -> x.predictEnd(0, 0));
                Refusal.check(Refusal.ARGUMENT, state, x -> x.predictEnd(0, 401));
                Refusal.check(Refusal.ARGUMENT, state, x -> x.predictEnd(2, -1));
            }
        });
    }

    private static void nothingChanges() {
        for (Supplier<FeedbackQueueSimulator> state : States.ALL) {
            for (java.util.function.Function<FeedbackQueueSimulator, String> eye : Eyes.OF_MACHINE) {
                FeedbackQueueSimulator x = state.get();
                if (x.total(5) > 0) {
                    x.predictEnd(0, 400);
                    x.gain(0, 200);
                }
                x.starvation(200, 0);
                x.bestBoost(100);
                x.unfairnessBits(200);
                x.switchesWith(0, 20, 200);
                Check.due("the machine behind predictions", eye.apply(x), Refusal.untouched(state, eye));
            }
            FeedbackQueueSimulator x = state.get();
            x.starvation(200, 0);
            x.bestBoost(100);
            Check.due("the text behind predictions", Eyes.OF_TEXT.apply(x), Refusal.untouched(state, Eyes.OF_TEXT));
        }
    }

    private static void predictedEnds() {
        FeedbackQueueSimulator least = new FeedbackQueueSimulator();
        least.spawn(0, 0, 1, 0, 1);
        Check.due("one tick is enough", least.predictEnd(0, 1), 1);
        least.tick();
        Check.due("finished already", least.predictEnd(0, 1), 1);
        Check.due("finished already", least.predictEnd(0, 400), 1);
        FeedbackQueueSimulator most = new FeedbackQueueSimulator();
        most.run(9);
        most.spawn(0, 0, 20, 0, 20);
        Check.due("400 ticks are enough", most.predictEnd(0, 400), 409);
        Check.due("399 are not", most.predictEnd(0, 399), -1);
        most.spawn(0, 0, 1, 0, 1);
        Check.due("with one more before its end", most.predictEnd(0, 400), -1);
        most.tick();
        Check.due("one tick later", most.predictEnd(0, 400), 410);
        most.kill(0);
        Check.due("killed", most.predictEnd(0, 400), -1);
        // The last tick in question is the one in which an operation of 30 ticks is over.
        FeedbackQueueSimulator waiting = new FeedbackQueueSimulator();
        waiting.spawn(0, 0, 1, 30, 2);
        waiting.tick();
        Check.due("30 ticks are too few", waiting.predictEnd(0, 30), -1);
        Check.due("31 are enough", waiting.predictEnd(0, 31), 32);
    }

    private static void starvation(Sentences s) {
        s.test(30, "Predicts the longest starvation: the greatest number of consecutive simulated ticks for which one and the"
                + " same process would wait in a queue.", PredictionCases::longestWaits);
        s.test(30, "ticks: the number of ticks that are simulated, 1 to 200", () -> {
            for (Supplier<FeedbackQueueSimulator> state : States.ALL) {
                Range.check(1, 200, Refusal.ARGUMENT, state, (x, ticks) -> x.starvation(ticks, 0));
            }
            for (int ticks : new int[] {1, 2, 199, 200}) {
                Check.due("all of " + ticks, starved().starvation(ticks, 0), ticks);
            }
        });
        s.test(30, "what: 0 for the number, 1 for the lowest process that would wait so long", () -> {
            Range.check(0, 1, Refusal.ARGUMENT, States.BUSY, (x, what) -> x.starvation(200, what));
            Check.due("1 and 2 wait alike", starved().starvation(200, 1), 1);
            // Process 3 waits for 3 ticks first, then process 0 for 3 as well, which is lower.
            FeedbackQueueSimulator x = new FeedbackQueueSimulator();
            x.setLevels(1);
            x.setLevel(0, 1, 40, 0);
            for (int p = 0; p < 4; p++) {
                x.spawn(0, 0, 30, 0, 1);
            }
            Check.due("2 ticks", x.starvation(2, 1), 2);
            Check.due("3 ticks", x.starvation(3, 1), 3);
            Check.due("4 ticks", x.starvation(4, 1), 0);
            Check.due("its number", x.starvation(4, 0), 3);
        });
        s.test(30, "Returns the result; -1 if what is 1 and no process would wait.", () -> {
            FeedbackQueueSimulator x = new FeedbackQueueSimulator();
            Check.due("no process", x.starvation(200, 1), -1);
            Check.due("no process", x.starvation(200, 0), 0);
            x.spawn(0, 0, 1, 5, 20);
            Check.due("alone", x.starvation(200, 1), -1);
            Check.due("alone", x.starvation(200, 0), 0);
            x.spawn(0, 0, 1, 0, 1);
            Check.due("one waits once", x.starvation(1, 1), 1);
            Check.due("one waits once", x.starvation(1, 0), 1);
            x.kill(1);
            Check.due("alone again", x.starvation(200, 1), -1);
            Check.due("alone again", x.starvation(200, 0), 0);
            Check.due("all ended", States.OVER.get().starvation(200, 1), -1);
        });
        s.test(30, "Throws IllegalArgumentException if an argument is out of range", () -> {
            for (Supplier<FeedbackQueueSimulator> state : States.ALL) {
                Refusal.check(Refusal.ARGUMENT, state, x -> x.starvation(0, 0));
                Refusal.check(Refusal.ARGUMENT, state, x -> x.starvation(201, 1));
                Refusal.check(Refusal.ARGUMENT, state, x -> x.starvation(1, -1));
                Refusal.check(Refusal.ARGUMENT, state, x -> x.starvation(200, 2));
                Refusal.check(Refusal.ARGUMENT, state, x -> x.starvation(0, 2));
            }
        });
    }

    /** A boost at each tick: process 0 keeps the processor, 1 and 2 wait. */
    private static FeedbackQueueSimulator starved() {
        FeedbackQueueSimulator x = new FeedbackQueueSimulator();
        x.setOption(0, 1);
        for (int p = 0; p < 3; p++) {
            x.spawn(0, 0, 30, 0, 20);
        }
        return x;
    }

    private static void longestWaits() {
        // Waits that were before now do not count, nor does a wait go on over a tick of its own.
        FeedbackQueueSimulator x = new FeedbackQueueSimulator();
        x.setLevels(1);
        x.setLevel(0, 20, 40, 0);
        x.spawn(0, 0, 30, 0, 1);
        x.spawn(0, 0, 30, 0, 1);
        x.run(19);
        Check.due("process 1 waits for one more", x.starvation(1, 0), 1);
        Check.due("one and the same", x.starvation(20, 0), 19);
        Check.due("its turn is over", x.starvation(21, 0), 20);
        Check.due("and the next wait begins anew", x.starvation(31, 0), 20);
        // An operation is no wait: it ends one.
        FeedbackQueueSimulator y = new FeedbackQueueSimulator();
        y.spawn(0, 0, 1, 30, 3);
        y.run(1);
        Check.due("waiting for an operation", y.starvation(200, 0), 0);
    }

    private static void bestBoost(Sentences s) {
        s.test(31, "Finds the boost period from 0 to 20 with which the longest starvation would be shortest;", () -> {
            FeedbackQueueSimulator most = new FeedbackQueueSimulator();
            most.setLevels(1);
            most.setLevel(0, 12, 34, 0);
            most.spawn(0, 0, 3, 28, 8);
            most.spawn(0, 0, 24, 13, 1);
            most.spawn(0, 0, 28, 1, 2);
            Check.due("the greatest period", most.bestBoost(90), 20);
            Check.due("by trying", bestByTrying(most, 90), 20);
            // 21 would be better than all of them, but is not among them.
            FeedbackQueueSimulator beyond = new FeedbackQueueSimulator();
            beyond.setLevels(1);
            beyond.setLevel(0, 17, 23, 0);
            beyond.spawn(0, 0, 4, 13, 4);
            beyond.spawn(0, 0, 26, 0, 4);
            beyond.setOption(0, 21);
            Check.due("with 21", beyond.starvation(55, 0), 4);
            beyond.setOption(0, 0);
            Check.due("with 0", beyond.starvation(55, 0), 10);
            Check.due("not 21", beyond.bestBoost(55), 0);
            for (int ticks : new int[] {1, 2, 50, 99, 100}) {
                Check.due("by trying", States.FULL.get().bestBoost(ticks), bestByTrying(States.FULL.get(), ticks));
                Check.due("by trying", States.BUSY.get().bestBoost(ticks), bestByTrying(States.BUSY.get(), ticks));
            }
        });
        s.test(31, "among several, the least period.", () -> {
            Check.due("all alike without processes", new FeedbackQueueSimulator().bestBoost(100), 0);
            FeedbackQueueSimulator x = new FeedbackQueueSimulator();
            x.setOption(0, 200);
            x.spawn(0, 0, 30, 0, 20);
            x.spawn(0, 0, 30, 0, 20);
            Check.due("all alike in one tick", x.bestBoost(1), 0);
            Check.due("level 0 alone, from a period of 2 on", x.bestBoost(100), 2);
        });
        s.test(31, "ticks: the number of ticks that are simulated for each period, 1 to 100", () -> {
            for (Supplier<FeedbackQueueSimulator> state : States.ALL) {
                Range.check(1, 100, Refusal.ARGUMENT, state, (x, ticks) -> x.bestBoost(ticks));
            }
        });
        s.test(31, "Returns the period.", () -> {
            FeedbackQueueSimulator x = starved();
            Check.due("not the present one", x.bestBoost(100) == 1 ? 1 : 0, 0);
            Check.due("which stays", x.setOption(0, 1), 1);
        });
        s.test(31, "Throws IllegalArgumentException if the number is out of range", () -> {
            for (Supplier<FeedbackQueueSimulator> state : States.ALL) {
                Refusal.check(Refusal.ARGUMENT, state, x -> x.bestBoost(0));
                Refusal.check(Refusal.ARGUMENT, state, x -> x.bestBoost(101));
                Refusal.check(Refusal.ARGUMENT, state, x -> x.bestBoost(-1));
            }
        });
    }

    private static int bestByTrying(FeedbackQueueSimulator x, int ticks) {
        int best = -1;
        int shortest = Integer.MAX_VALUE;
        for (int period = 0; period <= 20; period++) {
            x.setOption(0, period);
            int longest = x.starvation(ticks, 0);
            if (longest < shortest) {
                shortest = longest;
                best = period;
            }
        }
        return best;
    }

    private static void unfairnessBits(Sentences s) {
        s.plain(32, "Predicts how unfairly the processor would be shared.");
        s.test(32, "Only users with at least one process that is now ready, current or waiting are considered.",
                PredictionCases::consideredUsers);
        s.test(32, "The target of a user is the weight of this user divided by the sum of the weights of these users; the part of"
                + " a user is the number of simulated ticks in which processes of this user would run, divided by the number of"
                + " simulated ticks that would not be idle. Both divisions are computed as floats.", () -> {
            // One user alone has all of both.
            FeedbackQueueSimulator alone = new FeedbackQueueSimulator();
            alone.setShare(3, 9);
            alone.spawn(3, 0, 1, 30, 3);
            Check.due("alone", alone.unfairnessBits(200), 0);
            for (int weight = 1; weight <= 9; weight++) {
                FeedbackQueueSimulator x = new FeedbackQueueSimulator();
                x.setShare(1, weight);
                x.spawn(1, 0, 1, 9, 2);
                x.spawn(2, 0, 2, 0, 1);
                // Of ten ticks seven are idle; users 1 and 2 run in one and two.
                float one = distance(1.0f / 3.0f, (float) weight / (float) (weight + 1));
                float two = distance(2.0f / 3.0f, 1.0f / (float) (weight + 1));
                Check.due("weight " + weight, x.unfairnessBits(10), Float.floatToIntBits(one > two ? one : two));
            }
            // Idle ticks and ticks of a user that were before now do not count.
            FeedbackQueueSimulator later = new FeedbackQueueSimulator();
            later.run(200);
            later.spawn(0, 0, 30, 0, 1);
            later.spawn(1, 0, 30, 0, 1);
            later.run(9);
            later.setShare(0, 4);
            Check.due("current is process 0", later.state(0), 1);
            Check.due("4 ticks, of which user 0 has 3", later.unfairnessBits(4),
                    Float.floatToIntBits(distance(3.0f / 4.0f, 4.0f / 5.0f)));
        });
        s.test(32, "ticks: the number of ticks that are simulated, 1 to 200", () -> {
            for (Supplier<FeedbackQueueSimulator> state : States.ALL) {
                Range.check(1, 200, Refusal.ARGUMENT, state, (x, ticks) -> x.unfairnessBits(ticks));
            }
        });
        s.test(32, "Returns the bits, as by Float.floatToIntBits, of the greatest absolute difference, as a float, of part and"
                + " target of a user; those of 0.0f if all simulated ticks would be idle.", () -> {
            Check.due("no process", new FeedbackQueueSimulator().unfairnessBits(200), 0);
            Check.due("all ended", States.OVER.get().unfairnessBits(200), 0);
            FeedbackQueueSimulator x = new FeedbackQueueSimulator();
            x.spawn(0, 0, 1, 30, 2);
            x.spawn(1, 0, 1, 0, 1);
            x.run(2);
            Check.due("an operation until 31", x.unfairnessBits(29), 0);
            x.spawn(1, 0, 1, 0, 1);
            Check.due("the greatest difference", x.unfairnessBits(1), Float.floatToIntBits(0.5f));
            x.setShare(1, 9);
            Check.due("part above target", x.unfairnessBits(1), Float.floatToIntBits(distance(1.0f, 9.0f / 10.0f)));
            x.setShare(0, 9);
            x.setShare(1, 1);
            Check.due("target above part", x.unfairnessBits(1), Float.floatToIntBits(distance(0.0f, 9.0f / 10.0f)));
            // Each user in turn has the tick, and the greatest difference.
            for (int user = 0; user < 4; user++) {
                FeedbackQueueSimulator y = new FeedbackQueueSimulator();
                for (int p = 0; p < 4; p++) {
                    y.spawn((user + p) % 4, 0, 30, 0, 1);
                }
                Check.due("user " + user, y.unfairnessBits(1), Float.floatToIntBits(distance(1.0f, 0.25f)));
            }
        });
        s.test(32, "Throws IllegalArgumentException if the number is out of range", () -> {
            for (Supplier<FeedbackQueueSimulator> state : States.ALL) {
                Refusal.check(Refusal.ARGUMENT, state, x -> x.unfairnessBits(0));
                Refusal.check(Refusal.ARGUMENT, state, x -> x.unfairnessBits(201));
                Refusal.check(Refusal.ARGUMENT, state, x -> x.unfairnessBits(-1));
            }
        });
    }

    private static float distance(float part, float target) {
        float difference = part - target;
        return difference < 0.0f ? -difference : difference;
    }

    private static void consideredUsers() {
        // Process 0 of user 0 in each state; user 1 runs in the tick that is simulated, or user 0 goes on.
        for (int state = 0; state < 5; state++) {
            FeedbackQueueSimulator x = new FeedbackQueueSimulator();
            x.setShare(0, 3);
            x.spawn(0, 0, state == 3 ? 1 : 2, state == 2 ? 30 : 0, state == 3 ? 1 : 2);
            x.run(state == 0 || state == 2 ? 2 : 1);
            if (state == 4) {
                x.kill(0);
            }
            x.spawn(1, 0, 30, 0, 1);
            Check.due("state", x.state(0), state);
            // Ready or current, user 0 has the tick, with a target of 3/4; waiting, user 1 has it.
            float due = state < 2 ? distance(1.0f, 0.75f) : state == 2 ? 0.75f : 0.0f;
            Check.due("with state " + state, x.unfairnessBits(1), Float.floatToIntBits(due));
        }
    }

    private static void gain(Sentences s) {
        s.plain(33, "Predicts what a process would gain by lenient accounting.");
        s.test(33, "process: the process",
                () -> Range.check(0, 9, Refusal.INDEX, States.FULL, (x, process) -> x.gain(process, 200)));
        s.test(33, "ticks: the number of ticks that are simulated, 1 to 200",
                () -> Range.check(1, 200, Refusal.ARGUMENT, States.BUSY, (x, ticks) -> x.gain(0, ticks)));
        s.test(33, "Returns the ticks that it would run with lenient accounting minus those with strict accounting.", () -> {
            for (int accounting = 0; accounting <= 1; accounting++) {
                FeedbackQueueSimulator x = new FeedbackQueueSimulator();
                x.setOption(5, accounting);
                x.spawn(0, 0, 3, -1, 20);
                x.spawn(0, 0, 30, 0, 20);
                Check.due("none in the first tick", x.gain(0, 1), 0);
                int gained = ranWith(x, 0, 40) - ranWith(x, 1, 40);
                Check.due("it gains", gained > 0 ? 1 : 0, 1);
                Check.due("the one that gives up", x.gain(0, 40), gained);
                Check.due("the other one", x.gain(1, 40), -gained);
                Check.due("the option stays", x.setOption(5, 1), accounting);
            }
            Check.due("finished", States.BUSY.get().gain(3, 200), 0);
            Check.due("killed", States.BUSY.get().gain(4, 200), 0);
        });
        s.test(33, "Throws IndexOutOfBoundsException if there is no such process", () -> {
            Refusal.check(Refusal.INDEX, States.FRESH, x -> x.gain(0, 1));
            Refusal.check(Refusal.INDEX, States.BUSY, x -> x.gain(5, 1));
            Refusal.check(Refusal.INDEX, States.BUSY, x -> x.gain(-1, 0));
            Refusal.check(Refusal.INDEX, States.FULL, x -> x.gain(10, 201));
        });
        s.test(33, "Throws IllegalArgumentException if the number is out of range", () -> {
            for (Supplier<FeedbackQueueSimulator> state : States.WITH_PROCESSES) {
                Refusal.check(Refusal.ARGUMENT, state, x -> x.gain(0, 0));
                Refusal.check(Refusal.ARGUMENT, state, x -> x.gain(2, 201));
                Refusal.check(Refusal.ARGUMENT, state, x -> x.gain(0, -1));
            }
        });
    }

    private static int ranWith(FeedbackQueueSimulator x, int accounting, int ticks) {
        x.save();
        x.setOption(5, accounting);
        x.run(ticks);
        int ran = x.property(0, 5);
        x.restore();
        return ran;
    }

    private static void switchesWith(Sentences s) {
        s.plain(34, "Predicts how the number of context switches would change with another quantum of a level.");
        s.test(34, "level: the level", () -> {
            Range.check(0, 3, Refusal.INDEX, States.BUSY, (x, level) -> x.switchesWith(level, 1, 1));
            Range.check(0, 2, Refusal.INDEX, States.FRESH, (x, level) -> x.switchesWith(level, 20, 200));
        });
        s.test(34, "quantum: the quantum, 1 to 20",
                () -> Range.check(1, 20, Refusal.ARGUMENT, States.BUSY, (x, quantum) -> x.switchesWith(0, quantum, 100)));
        s.test(34, "ticks: the number of ticks that are simulated, 1 to 200",
                () -> Range.check(1, 200, Refusal.ARGUMENT, States.BUSY, (x, ticks) -> x.switchesWith(3, 2, ticks)));
        s.test(34, "Returns the number of context switches with that quantum minus the number with the present one.", () -> {
            FeedbackQueueSimulator x = new FeedbackQueueSimulator();
            Check.due("without processes", x.switchesWith(0, 20, 200), 0);
            x.setLevels(1);
            x.setLevel(0, 4, 40, 0);
            x.spawn(0, 0, 20, 0, 5);
            x.spawn(0, 0, 20, 0, 5);
            // Two processes of 100 ticks each, 200 ticks: one switch at the beginning of each quantum.
            Check.due("200 of one tick, 50 of four", x.switchesWith(0, 1, 200), 150);
            Check.due("10 of twenty", x.switchesWith(0, 20, 200), 10 - 50);
            Check.due("the present one", x.switchesWith(0, 4, 200), 0);
            Check.due("the first tick", x.switchesWith(0, 20, 1), 0);
            Check.due("the present one stays", x.setLevel(0, 4, 40, 0), 4);
        });
        s.test(34, "Throws IndexOutOfBoundsException if there is no such level", () -> {
            Refusal.check(Refusal.INDEX, States.FRESH, x -> x.switchesWith(3, 1, 1));
            Refusal.check(Refusal.INDEX, States.BUSY, x -> x.switchesWith(4, 1, 1));
            Refusal.check(Refusal.INDEX, States.BUSY, x -> x.switchesWith(-1, 0, 1));
            Refusal.check(Refusal.INDEX, States.BUSY, x -> x.switchesWith(4, 21, 201));
        });
        s.test(34, "Throws IllegalArgumentException if another argument is out of range", () -> {
            for (Supplier<FeedbackQueueSimulator> state : States.ALL) {
                Refusal.check(Refusal.ARGUMENT, state, x -> x.switchesWith(0, 0, 1));
                Refusal.check(Refusal.ARGUMENT, state, x -> x.switchesWith(2, 21, 1));
                Refusal.check(Refusal.ARGUMENT, state, x -> x.switchesWith(0, 1, 0));
                Refusal.check(Refusal.ARGUMENT, state, x -> x.switchesWith(2, 1, 201));
                Refusal.check(Refusal.ARGUMENT, state, x -> x.switchesWith(0, -1, -1));
            }
        });
    }
}
