import java.util.function.Supplier;

/** Promises 1 to 5, and what the description says of levels, options and users. */
final class ConfigurationCases {
    private static final int DESCRIPTION = Sentences.DESCRIPTION;
    private static final int[] LEAST = {0, 0, 0, 0, 1, 0};
    private static final int[] MOST = {200, 200, 16, 9, 9, 1};
    private static final int[] FIRST = {0, 0, 8, 1, 3, 1};

    private ConfigurationCases() {
    }

    static void tell(Sentences s) {
        describedLevels(s);
        describedOptions(s);
        describedUsers(s);
        s.test(1, "Creates a machine with 3 levels and without processes, with empty pins, an empty buffer and an"
                + " empty usage table.", ConfigurationCases::newMachine);
        setLevels(s);
        setLevel(s);
        setOption(s);
        setShare(s);
    }

    private static void describedLevels(Sentences s) {
        s.test(DESCRIPTION, "Levels. There are 1 to 5 priority levels, 3 at first, numbered from 0, the most important one.",
                ConfigurationCases::numbersOfLevels);
        s.test(DESCRIPTION, "Each level has a quantum (1 to 20)", ConfigurationCases::quanta);
        s.test(DESCRIPTION, ", an allotment (1 to 40)", ConfigurationCases::allotments);
        s.test(DESCRIPTION, "and a policy, 0 (first in, first out) or 1 (fair).", ConfigurationCases::policies);
        s.test(DESCRIPTION, "At first, the levels 0 to 4 have the quanta 2, 4, 8, 8, 8, the allotments 4, 8, 16, 16, 16"
                + " and policy 0.", ConfigurationCases::firstSettings);
        s.test(DESCRIPTION, "Each level has a queue of ready processes.", ConfigurationCases::emptyAndFullQueues);
    }

    private static void numbersOfLevels() {
        Check.due("at first", new FeedbackQueueSimulator().setLevels(3), 3);
        for (int levels = 1; levels <= 5; levels++) {
            Supplier<FeedbackQueueSimulator> state = withLevels(levels);
            Range.check(0, levels - 1, Refusal.INDEX, state, (x, level) -> x.queueLength(level));
        }
        FeedbackQueueSimulator x = new FeedbackQueueSimulator();
        x.spawn(0, 0, 30, 0, 1);
        x.run(4);
        x.spawn(0, 0, 1, 0, 1);
        Check.due("process 0 is at level 1", x.queued(1, 0), 0);
        Check.due("level 0 goes before it", x.tick(), 1);
    }

    private static void quanta() {
        Check.ran(twoAlike(1, 40, 0), 0, 1, 0, 1);
        FeedbackQueueSimulator x = twoAlike(20, 40, 0);
        for (int t = 0; t < 20; t++) {
            Check.ran(x, 0);
        }
        Check.due("the quantum of 20 is over", x.state(0), 0);
        Check.ran(x, 1);
        Check.due("of 20, one is used", x.property(1, 4), 19);
    }

    private static void allotments() {
        FeedbackQueueSimulator x = twoAlike(20, 1, 0);
        Check.ran(x, 0, 1);
        Check.due("an allotment of 1 is over", x.property(0, 2), 1);
        Check.due("an allotment of 1 is over", x.property(1, 2), 1);
        FeedbackQueueSimulator y = new FeedbackQueueSimulator();
        y.setLevel(0, 20, 40, 0);
        y.spawn(0, 0, 30, 0, 2);
        y.run(39);
        Check.due("39 of 40", y.property(0, 2), 0);
        Check.due("39 of 40", y.property(0, 3), 39);
        y.tick();
        Check.due("40 of 40", y.property(0, 2), 1);
        Check.due("40 of 40", y.property(0, 3), 0);
    }

    private static void policies() {
        // Both users have the ratio 0: the fair level takes the lower one, though it came later.
        Check.ran(twoAlike(2, 4, 0), 0);
        Check.ran(twoAlike(2, 4, 1), 1);
    }

    private static void firstSettings() {
        int[] quanta = {2, 4, 8, 8, 8};
        int[] allotments = {4, 8, 16, 16, 16};
        FeedbackQueueSimulator x = new FeedbackQueueSimulator();
        x.setLevels(5);
        // Alone, a process runs its allotments one after the other.
        x.spawn(0, 0, 30, 0, 4);
        for (int level = 0; level < 5; level++) {
            x.run(allotments[level] - 1);
            Check.due("before the end of allotment " + level, x.property(0, 2), level);
            Check.due("budget before the end of allotment " + level, x.property(0, 3), allotments[level] - 1);
            x.tick();
            Check.due("after allotment " + level, x.property(0, 2), level < 4 ? level + 1 : 4);
        }
        for (int level = 0; level < 5; level++) {
            Check.due("quantum of " + level, x.setLevel(level, 1, 1, 0), quanta[level]);
        }
        // Of two with the same usage, the one of the higher user goes first at each level's beginning.
        FeedbackQueueSimulator y = new FeedbackQueueSimulator();
        y.setLevels(5);
        y.spawn(1, 0, 30, 0, 3);
        y.spawn(0, 0, 30, 0, 3);
        for (int level = 0; level < 5; level++) {
            Check.due("level " + level + " begins", y.queueLength(level), 2);
            Check.due("policy 0 at level " + level, y.tick(), 0);
            y.run(2 * allotments[level] - 1);
        }
    }

    private static void emptyAndFullQueues() {
        FeedbackQueueSimulator x = new FeedbackQueueSimulator();
        for (int level = 0; level < 3; level++) {
            Check.due("empty", x.queueLength(level), 0);
        }
        for (int p = 0; p < 10; p++) {
            x.spawn(0, 0, 30, 0, 1);
            Check.due("with " + p, x.queueLength(0), p + 1);
        }
        x.run(39);
        Check.due("all but the last one went to level 1", x.queueLength(1), 9);
        x.tick();
        Check.due("all 10", x.queueLength(1), 10);
        Check.due("and none is left", x.queueLength(0), 0);
    }

    private static void describedOptions(Sentences s) {
        s.test(DESCRIPTION, "Options. Option 0 is the boost period (0 to 200, 0 for none)", () -> periods(0, 3));
        s.test(DESCRIPTION, ", option 1 the decay period (0 to 200, 0 for none)", () -> periods(1, 4));
        s.test(DESCRIPTION, ", option 2 the decay factor (0 to 16)", ConfigurationCases::factors);
        s.test(DESCRIPTION, ", option 3 the late margin (0 to 9)", ConfigurationCases::margins);
        s.test(DESCRIPTION, ", option 4 the late limit (1 to 9)", ConfigurationCases::limits);
        s.test(DESCRIPTION, ", and option 5 the accounting (0 lenient, 1 strict).", ConfigurationCases::accounting);
        s.test(DESCRIPTION, "At first, they are 0, 0, 8, 1, 3 and 1.", () -> {
            FeedbackQueueSimulator x = new FeedbackQueueSimulator();
            for (int option = 0; option < 6; option++) {
                Check.due("option " + option, x.setOption(option, LEAST[option]), FIRST[option]);
            }
        });
    }

    private static void periods(int option, int total) {
        optionRange(option);
        FeedbackQueueSimulator none = new FeedbackQueueSimulator();
        none.setOption(option, 0);
        none.run(200);
        none.run(200);
        none.run(1);
        Check.due("a period of 0", none.total(total), 0);
        FeedbackQueueSimulator each = new FeedbackQueueSimulator();
        each.setOption(option, 1);
        each.tick();
        Check.due("a period of 1 at clock 0", each.total(total), 0);
        each.run(5);
        Check.due("a period of 1 until clock 5", each.total(total), 5);
        FeedbackQueueSimulator rare = new FeedbackQueueSimulator();
        rare.setOption(option, 200);
        rare.run(200);
        Check.due("a period of 200 until clock 199", rare.total(total), 0);
        rare.tick();
        Check.due("a period of 200 at clock 200", rare.total(total), 1);
        rare.run(199);
        Check.due("a period of 200 until clock 399", rare.total(total), 1);
        rare.tick();
        Check.due("a period of 200 at clock 400", rare.total(total), 2);
    }

    private static void factors() {
        optionRange(2);
        for (int factor = 0; factor <= 16; factor++) {
            FeedbackQueueSimulator x = new FeedbackQueueSimulator();
            x.spawn(0, 0, 7, 0, 1);
            x.run(7);
            x.setOption(1, 7);
            x.setOption(2, factor);
            x.tick();
            Check.due("factor " + factor, x.ratioBits(0), Float.floatToIntBits(7.0f * ((float) factor / 16.0f)));
            Check.due("a decay with factor " + factor, x.total(4), 1);
        }
    }

    private static void margins() {
        optionRange(3);
        // With an allotment of 40 and a budget of 40 - rest, a give-up is late from margin rest on.
        for (int margin = 0; margin <= 9; margin++) {
            for (int rest = 1; rest <= 10; rest++) {
                FeedbackQueueSimulator x = new FeedbackQueueSimulator();
                x.setLevel(0, 20, 40, 0);
                x.setOption(3, margin);
                Check.put(x, rest == 10 ? "spawn00=c30yc1;" : "spawn00=c" + (30 - rest) + "c10yc1;");
                x.execute();
                x.run(40 - rest);
                Check.due("gave up", x.property(0, 9), 1);
                Check.due("margin " + margin + ", rest " + rest, x.property(0, 10), rest <= margin ? 1 : 0);
            }
        }
    }

    private static void limits() {
        optionRange(4);
        // With lenient accounting each give-up at a budget of 3 of 4 is late.
        FeedbackQueueSimulator x = new FeedbackQueueSimulator();
        x.setOption(5, 0);
        x.spawn(0, 0, 3, -1, 20);
        for (int late = 0; late <= 10; late++) {
            Check.due("late give-ups", x.property(0, 10), late);
            for (int limit = 1; limit <= 9; limit++) {
                x.setOption(4, limit);
                Check.due("limit " + limit + ", late " + late, x.suspects(), late >= limit ? 1 : 0);
            }
            x.run(3);
        }
    }

    private static void accounting() {
        optionRange(5);
        for (int accounting = 0; accounting <= 1; accounting++) {
            FeedbackQueueSimulator x = new FeedbackQueueSimulator();
            x.setOption(5, accounting);
            x.spawn(0, 0, 3, -1, 20);
            x.run(3);
            Check.due("budget behind a give-up, accounting " + accounting, x.property(0, 3), 3 * accounting);
        }
    }

    private static void optionRange(int option) {
        for (Supplier<FeedbackQueueSimulator> state : States.ALL) {
            Range.check(LEAST[option], MOST[option], Refusal.ARGUMENT, state, (x, value) -> x.setOption(option, value));
        }
    }

    private static void describedUsers(Sentences s) {
        s.test(DESCRIPTION, "Users. There are 4 users, numbered from 0.",
                () -> Range.check(0, 3, Refusal.INDEX, States.BUSY, (x, user) -> x.ratioBits(user)));
        s.test(DESCRIPTION, "A user has a weight (1 to 9, at first 1) and a usage, a float that is 0.0f at first.", () -> {
            FeedbackQueueSimulator x = new FeedbackQueueSimulator();
            for (int user = 0; user < 4; user++) {
                Check.due("usage of " + user, x.ratioBits(user), Float.floatToIntBits(0.0f));
                Check.due("weight of " + user, x.setShare(user, 9), 1);
                Check.due("usage of " + user + " by 9", x.ratioBits(user), Float.floatToIntBits(0.0f));
            }
        });
        s.test(DESCRIPTION, "The ratio of a user is the usage divided by the weight, computed as a float.", () -> {
            FeedbackQueueSimulator x = new FeedbackQueueSimulator();
            x.spawn(3, 0, 30, 0, 20);
            for (int usage = 1; usage <= 20; usage++) {
                x.tick();
                for (int weight = 1; weight <= 9; weight++) {
                    x.setShare(3, weight);
                    Check.due(usage + " by " + weight, x.ratioBits(3),
                            Float.floatToIntBits((float) usage / (float) weight));
                }
            }
        });
    }

    private static void newMachine() {
        FeedbackQueueSimulator x = new FeedbackQueueSimulator();
        Check.due("the last level", x.queueLength(2), 0);
        Refusal.check(Refusal.INDEX, States.FRESH, y -> y.queueLength(3));
        Check.due("processes", x.total(5), 0);
        Refusal.check(Refusal.INDEX, States.FRESH, y -> y.state(0));
        for (int k = 0; k < 3; k++) {
            int pin = k;
            Refusal.check(Refusal.STATE, States.FRESH, y -> y.unpin(pin));
        }
        Check.due("characters", x.append(0), 0);
        Check.due("entries", x.usageEntries(), 0);
        Refusal.check(Refusal.INDEX, States.FRESH, y -> y.usageEntry(0, 0));
    }

    private static void setLevels(Sentences s) {
        s.plain(2, "Configuration. Sets the number of levels.");
        s.test(2, "levels: the number, 1 to 5",
                () -> Range.check(1, 5, Refusal.ARGUMENT, States.FRESH, (x, levels) -> x.setLevels(levels)));
        s.test(2, "Returns the previous number.", () -> {
            FeedbackQueueSimulator x = new FeedbackQueueSimulator();
            int previous = 3;
            for (int levels : new int[] {1, 5, 5, 1, 1, 2, 4, 3}) {
                Check.due("to " + levels, x.setLevels(levels), previous);
                previous = levels;
            }
        });
        s.test(2, "Throws IllegalArgumentException if the number is out of range", () -> {
            for (Supplier<FeedbackQueueSimulator> state : States.ALL) {
                Refusal.check(Refusal.ARGUMENT, state, x -> x.setLevels(0));
                Refusal.check(Refusal.ARGUMENT, state, x -> x.setLevels(6));
            }
        });
        s.test(2, "Throws IllegalStateException if a process has been created", ConfigurationCases::levelsAreFixed);
    }

    private static void levelsAreFixed() {
        for (Supplier<FeedbackQueueSimulator> state : States.WITH_PROCESSES) {
            Refusal.check(Refusal.STATE, state, x -> x.setLevels(1));
            Refusal.check(Refusal.STATE, state, x -> x.setLevels(3));
            Refusal.check(Refusal.STATE, state, x -> x.setLevels(5));
        }
        Refusal.check(Refusal.STATE, () -> withText("spawn00=c1;"), x -> x.setLevels(5));
        // A text with an error creates none, and a restored machine may have none.
        Check.due("behind an error", withText("spawn00=c1;spawn00=c1").setLevels(5), 3);
        FeedbackQueueSimulator x = new FeedbackQueueSimulator();
        x.save();
        x.spawn(0, 0, 1, 0, 1);
        x.restore();
        Check.due("restored", x.setLevels(5), 3);
    }

    private static void setLevel(Sentences s) {
        s.plain(3, "Configures a level.");
        s.test(3, "This does not change the remaining quantum of the current process.", () -> {
            for (int quantum = 1; quantum <= 20; quantum++) {
                FeedbackQueueSimulator x = twoAlike(10, 40, 0);
                x.tick();
                x.setLevel(0, quantum, 40, 0);
                Check.due("remaining behind a quantum of " + quantum, x.property(0, 4), 9);
                x.run(8);
                Check.due("the last tick is left", x.property(0, 4), 1);
                Check.ran(x, 0, 1);
                Check.due("the next one has the new quantum", x.property(1, 4), quantum - 1);
            }
        });
        s.test(3, "level: the level, which must exist", () -> {
            for (int levels = 1; levels <= 5; levels++) {
                Range.check(0, levels - 1, Refusal.INDEX, withLevels(levels), (x, level) -> x.setLevel(level, 1, 1, 0));
            }
        });
        s.test(3, "quantum: the quantum, 1 to 20",
                () -> Range.check(1, 20, Refusal.ARGUMENT, States.BUSY, (x, quantum) -> x.setLevel(3, quantum, 9, 1)));
        s.test(3, "allotment: the allotment, 1 to 40",
                () -> Range.check(1, 40, Refusal.ARGUMENT, States.BUSY, (x, allotment) -> x.setLevel(0, 9, allotment, 1)));
        s.test(3, "policy: the policy, 0 or 1",
                () -> Range.check(0, 1, Refusal.ARGUMENT, States.BUSY, (x, policy) -> x.setLevel(1, 9, 9, policy)));
        s.test(3, "Returns the previous quantum.", () -> {
            FeedbackQueueSimulator x = new FeedbackQueueSimulator();
            Check.due("at first", x.setLevel(2, 1, 40, 1), 8);
            Check.due("the least", x.setLevel(2, 20, 1, 0), 1);
            Check.due("the greatest", x.setLevel(2, 20, 1, 0), 20);
            Check.due("another level", x.setLevel(1, 20, 1, 0), 4);
        });
        s.test(3, "Throws IndexOutOfBoundsException if there is no such level", () -> {
            Refusal.check(Refusal.INDEX, States.BUSY, x -> x.setLevel(4, 1, 1, 0));
            Refusal.check(Refusal.INDEX, States.BUSY, x -> x.setLevel(-1, 1, 1, 0));
            Refusal.check(Refusal.INDEX, States.BUSY, x -> x.setLevel(4, 0, 0, 2));
            Refusal.check(Refusal.INDEX, States.FRESH, x -> x.setLevel(3, 21, 41, -1));
        });
        s.test(3, "Throws IllegalArgumentException if another argument is out of range", () -> {
            for (Supplier<FeedbackQueueSimulator> state : States.ALL) {
                Refusal.check(Refusal.ARGUMENT, state, x -> x.setLevel(0, 0, 1, 0));
                Refusal.check(Refusal.ARGUMENT, state, x -> x.setLevel(0, 1, 41, 0));
                Refusal.check(Refusal.ARGUMENT, state, x -> x.setLevel(0, 1, 1, 2));
                Refusal.check(Refusal.ARGUMENT, state, x -> x.setLevel(0, 21, 0, -1));
            }
        });
    }

    private static void setOption(Sentences s) {
        s.plain(4, "Sets an option.");
        s.test(4, "option: the option, 0 to 5",
                () -> Range.check(0, 5, Refusal.INDEX, States.BUSY, (x, option) -> x.setOption(option, 1)));
        s.test(4, "value: the value", () -> {
            for (int k = 0; k < 6; k++) {
                int option = k;
                Range.check(LEAST[k], MOST[k], Refusal.ARGUMENT, States.BUSY, (x, value) -> x.setOption(option, value));
            }
        });
        s.test(4, "Returns the previous value.", () -> {
            for (int option = 0; option < 6; option++) {
                FeedbackQueueSimulator x = new FeedbackQueueSimulator();
                int previous = FIRST[option];
                for (int value : new int[] {LEAST[option], MOST[option], MOST[option], LEAST[option], FIRST[option]}) {
                    Check.due("option " + option, x.setOption(option, value), previous);
                    previous = value;
                }
            }
        });
        s.test(4, "Throws IndexOutOfBoundsException if there is no such option", () -> {
            for (Supplier<FeedbackQueueSimulator> state : States.ALL) {
                Refusal.check(Refusal.INDEX, state, x -> x.setOption(6, 1));
                Refusal.check(Refusal.INDEX, state, x -> x.setOption(-1, 1));
                Refusal.check(Refusal.INDEX, state, x -> x.setOption(6, 201));
                Refusal.check(Refusal.INDEX, state, x -> x.setOption(-1, -1));
            }
        });
        s.test(4, "Throws IllegalArgumentException if the value is out of range", () -> {
            for (int k = 0; k < 6; k++) {
                int option = k;
                Refusal.check(Refusal.ARGUMENT, States.BUSY, x -> x.setOption(option, LEAST[option] - 1));
                Refusal.check(Refusal.ARGUMENT, States.BUSY, x -> x.setOption(option, MOST[option] + 1));
            }
        });
    }

    private static void setShare(Sentences s) {
        s.plain(5, "Sets the weight of a user.");
        s.test(5, "user: the user, 0 to 3",
                () -> Range.check(0, 3, Refusal.INDEX, States.BUSY, (x, user) -> x.setShare(user, 4)));
        s.test(5, "weight: the weight, 1 to 9", () -> {
            for (int k = 0; k < 4; k++) {
                int user = k;
                Range.check(1, 9, Refusal.ARGUMENT, States.BUSY, (x, weight) -> x.setShare(user, weight));
            }
        });
        s.test(5, "Returns the previous weight.", () -> {
            FeedbackQueueSimulator x = new FeedbackQueueSimulator();
            for (int user = 0; user < 4; user++) {
                Check.due("at first", x.setShare(user, 9), 1);
                Check.due("the greatest", x.setShare(user, 1), 9);
                Check.due("the least", x.setShare(user, 1), 1);
            }
        });
        s.test(5, "Throws IndexOutOfBoundsException if there is no such user", () -> {
            for (Supplier<FeedbackQueueSimulator> state : States.ALL) {
                Refusal.check(Refusal.INDEX, state, x -> x.setShare(4, 1));
                Refusal.check(Refusal.INDEX, state, x -> x.setShare(-1, 1));
                Refusal.check(Refusal.INDEX, state, x -> x.setShare(4, 0));
                Refusal.check(Refusal.INDEX, state, x -> x.setShare(-1, 10));
            }
        });
        s.test(5, "Throws IllegalArgumentException if the weight is out of range", () -> {
            for (Supplier<FeedbackQueueSimulator> state : States.ALL) {
                Refusal.check(Refusal.ARGUMENT, state, x -> x.setShare(3, 0));
                Refusal.check(Refusal.ARGUMENT, state, x -> x.setShare(0, 10));
            }
        });
    }

    private static Supplier<FeedbackQueueSimulator> withLevels(int levels) {
        return () -> {
            FeedbackQueueSimulator x = new FeedbackQueueSimulator();
            x.setLevels(levels);
            x.spawn(0, 0, 30, 0, 20);
            x.run(70);
            return x;
        };
    }

    private static FeedbackQueueSimulator withText(String text) {
        FeedbackQueueSimulator x = new FeedbackQueueSimulator();
        Check.put(x, text);
        Refusal.thrown(x, FeedbackQueueSimulator::execute);
        return x;
    }

    /** Process 0 of user 1 and process 1 of user 0, at a level 0 with these settings. */
    private static FeedbackQueueSimulator twoAlike(int quantum, int allotment, int policy) {
        FeedbackQueueSimulator x = new FeedbackQueueSimulator();
        x.setLevel(0, quantum, allotment, policy);
        x.spawn(1, 0, 30, 0, 4);
        x.spawn(0, 0, 30, 0, 4);
        return x;
    }
}
