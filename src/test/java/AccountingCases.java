import java.util.function.Supplier;

/** Promises 21 to 28, and what the description says of the usage table. */
final class AccountingCases {
    private AccountingCases() {
    }

    static void tell(Sentences s) {
        s.test(Sentences.DESCRIPTION, "Usage table. The table has an entry for each pair of a user and a level to which a tick"
                + " was charged, in the order in which the pairs were first charged.", AccountingCases::table);
        usageEntries(s);
        usageEntry(s);
        usageOf(s);
        ratioBits(s);
        suspects(s);
        lateBits(s);
        meanBits(s);
        total(s);
    }

    private static void table() {
        FeedbackQueueSimulator none = new FeedbackQueueSimulator();
        none.spawn(0, 0, 1, 0, 1);
        none.setLevel(0, 1, 1, 0);
        Check.due("no tick was charged", none.usageEntries(), 0);
        FeedbackQueueSimulator idle = new FeedbackQueueSimulator();
        idle.run(9);
        Check.due("idle ticks are charged to nobody", idle.usageEntries(), 0);
        FeedbackQueueSimulator x = allPairs();
        for (int k = 0; k < 20; k++) {
            Check.due("user of " + k, x.usageEntry(k, 0), 3 - k % 4);
            Check.due("level of " + k, x.usageEntry(k, 1), k / 4);
        }
        x.run(4);
        Check.due("the full table gets no more", x.usageEntries(), 20);
        Check.due("the last entry", x.usageEntry(19, 2), 2);
    }

    /** A table with 20 entries: users 3 to 0, and the levels 0 to 4. */
    private static FeedbackQueueSimulator allPairs() {
        FeedbackQueueSimulator x = new FeedbackQueueSimulator();
        x.setLevels(5);
        for (int level = 0; level < 5; level++) {
            x.setLevel(level, 1, 1, 0);
        }
        for (int user = 3; user >= 0; user--) {
            x.spawn(user, 0, 30, 0, 1);
        }
        x.run(20);
        return x;
    }

    private static void usageEntries(Sentences s) {
        s.plain(21, "Accounting. Returns the number of entries of the usage table.");
        s.test(21, "Returns the number.", () -> {
            Check.due("none", new FeedbackQueueSimulator().usageEntries(), 0);
            FeedbackQueueSimulator x = new FeedbackQueueSimulator();
            x.spawn(0, 0, 30, 0, 1);
            x.tick();
            Check.due("one", x.usageEntries(), 1);
            x.run(3);
            Check.due("one still", x.usageEntries(), 1);
            x.tick();
            Check.due("two", x.usageEntries(), 2);
            Check.due("all", allPairs().usageEntries(), 20);
        });
    }

    private static void usageEntry(Sentences s) {
        s.plain(22, "Returns a part of an entry of the usage table.");
        s.test(22, "index: the number of the entry, from 0",
                () -> Range.check(0, 19, Refusal.INDEX, AccountingCases::allPairs, (x, index) -> x.usageEntry(index, 2)));
        s.test(22, "what: 0 for the user, 1 for the level, 2 for the ticks", () -> {
            FeedbackQueueSimulator x = new FeedbackQueueSimulator();
            x.spawn(3, 0, 30, 0, 1);
            x.run(7);
            int[][] due = {{3, 0, 4}, {3, 1, 3}};
            for (int entry = 0; entry < 2; entry++) {
                for (int what = 0; what < 3; what++) {
                    Check.due("entry " + entry + ", " + what, x.usageEntry(entry, what), due[entry][what]);
                }
            }
        });
        s.test(22, "Returns the part.", () -> {
            FeedbackQueueSimulator x = allPairs();
            Check.due("the first entry's user", x.usageEntry(0, 0), 3);
            Check.due("the last entry's ticks", x.usageEntry(19, 2), 1);
        });
        s.test(22, "Throws IndexOutOfBoundsException if there is no such entry", () -> {
            Refusal.check(Refusal.INDEX, States.FRESH, x -> x.usageEntry(0, 0));
            Refusal.check(Refusal.INDEX, States.FRESH, x -> x.usageEntry(0, 3));
            Refusal.check(Refusal.INDEX, States.FRESH, x -> x.usageEntry(-1, 0));
            Refusal.check(Refusal.INDEX, AccountingCases::allPairs, x -> x.usageEntry(20, 0));
            Refusal.check(Refusal.INDEX, AccountingCases::allPairs, x -> x.usageEntry(20, -1));
        });
        s.test(22, "Throws IllegalArgumentException if what is not from 0 to 2",
                () -> Range.check(0, 2, Refusal.ARGUMENT, States.BUSY, (x, what) -> x.usageEntry(0, what)));
    }

    private static void usageOf(Sentences s) {
        s.plain(23, "Returns the ticks that were charged to a user and a level.");
        s.test(23, "user: the user", () -> Range.check(0, 3, Refusal.INDEX, States.BUSY, (x, user) -> x.usageOf(user, 3)));
        s.test(23, "level: the level", () -> {
            Range.check(0, 3, Refusal.INDEX, States.BUSY, (x, level) -> x.usageOf(3, level));
            Range.check(0, 4, Refusal.INDEX, AccountingCases::allPairs, (x, level) -> x.usageOf(0, level));
        });
        s.test(23, "Returns the ticks, 0 if there is no entry.", () -> {
            FeedbackQueueSimulator x = new FeedbackQueueSimulator();
            Check.due("no entry at all", x.usageOf(0, 0), 0);
            x.spawn(2, 0, 30, 0, 1);
            x.run(5);
            for (int user = 0; user < 4; user++) {
                for (int level = 0; level < 3; level++) {
                    int due = user == 2 && level == 0 ? 4 : user == 2 && level == 1 ? 1 : 0;
                    Check.due("user " + user + ", level " + level, x.usageOf(user, level), due);
                }
            }
        });
        s.test(23, "Throws IndexOutOfBoundsException if there is no such user or level", () -> {
            for (Supplier<FeedbackQueueSimulator> state : States.ALL) {
                Refusal.check(Refusal.INDEX, state, x -> x.usageOf(4, 0));
                Refusal.check(Refusal.INDEX, state, x -> x.usageOf(-1, 0));
                Refusal.check(Refusal.INDEX, state, x -> x.usageOf(0, 4));
                Refusal.check(Refusal.INDEX, state, x -> x.usageOf(0, -1));
                Refusal.check(Refusal.INDEX, state, x -> x.usageOf(4, 5));
            }
        });
    }

    private static void ratioBits(Sentences s) {
        s.plain(24, "Returns the ratio of a user.");
        s.test(24, "user: the user", () -> Range.check(0, 3, Refusal.INDEX, States.BUSY, (x, user) -> x.ratioBits(user)));
        s.test(24, "Returns the bits of the float, as by Float.floatToIntBits.", () -> {
            Check.due("0.0f", new FeedbackQueueSimulator().ratioBits(0), 0);
            // By the least factor a usage goes through the least normal float to the subnormal ones, and to 0.
            for (int factor : new int[] {1, 2, 3, 5, 8}) {
                FeedbackQueueSimulator x = new FeedbackQueueSimulator();
                x.spawn(0, 0, 7, 0, 1);
                x.run(7);
                x.setOption(1, 1);
                x.setOption(2, factor);
                float usage = 7.0f;
                for (int k = 0; k < 160; k++) {
                    x.tick();
                    usage = usage * ((float) factor / 16.0f);
                    Check.due("factor " + factor + ", " + k, x.ratioBits(0), Float.floatToIntBits(usage));
                }
                Check.due("nothing is left, factor " + factor, x.ratioBits(0), 0);
            }
            // A usage far above what one program has: 200 ticks a call.
            FeedbackQueueSimulator y = new FeedbackQueueSimulator();
            for (int p = 0; p < 10; p++) {
                y.spawn(0, 0, 30, 0, 20);
            }
            for (int k = 1; k <= 30; k++) {
                y.run(200);
                Check.due("usage", y.ratioBits(0), Float.floatToIntBits(k * 200.0f));
            }
        });
        s.test(24, "Throws IndexOutOfBoundsException if there is no such user", () -> {
            for (Supplier<FeedbackQueueSimulator> state : States.ALL) {
                Refusal.check(Refusal.INDEX, state, x -> x.ratioBits(4));
                Refusal.check(Refusal.INDEX, state, x -> x.ratioBits(-1));
            }
        });
    }

    private static void suspects(Sentences s) {
        s.test(25, "Returns the set of suspects: all processes, in any state, whose number of late give-ups is at least the"
                + " late limit.", () -> {
            Check.due("no process", new FeedbackQueueSimulator().suspects(), 0);
            for (int state = 0; state < 5; state++) {
                FeedbackQueueSimulator x = new FeedbackQueueSimulator();
                x.setOption(4, 2);
                lateAndInState(x, state);
                Check.due("state", x.state(0), state);
                Check.due("late", x.property(0, 10), 2);
                Check.due("at the limit, state " + state, x.suspects(), 1);
                x.setOption(4, 3);
                Check.due("below it, state " + state, x.suspects(), 0);
                x.setOption(4, 1);
                Check.due("above it, state " + state, x.suspects(), 1);
            }
        });
        s.test(25, "Returns the set, bit k for process k.", () -> {
            FeedbackQueueSimulator x = new FeedbackQueueSimulator();
            x.setOption(4, 1);
            for (int p = 0; p < 10; p++) {
                x.spawn(0, 0, 3, -1, 2);
            }
            int set = 0;
            for (int p = 0; p < 10; p++) {
                Check.due("before " + p, x.suspects(), 0);
                x.run(2);
            }
            for (int p = 0; p < 10; p++) {
                x.tick();
                set |= 1 << p;
                Check.due("with " + p, x.suspects(), set);
            }
            Check.due("all 10", x.suspects(), 1023);
        });
    }

    /** Process 0 gives up late two times and is brought into a state. */
    private static void lateAndInState(FeedbackQueueSimulator x, int state) {
        x.setOption(5, 0);
        String end = state == 2 ? "i9c1;" : state == 3 ? "c1;" : "c2;";
        Check.put(x, "spawn00=c3yc3" + (state == 2 ? "" : "y") + end);
        x.execute();
        x.run(6);
        if (state == 1 || state == 3) {
            x.tick();
        }
        if (state == 4) {
            x.kill(0);
        }
    }

    private static void lateBits(Sentences s) {
        s.plain(26, "Returns the share of late give-ups among all give-ups of a process.");
        s.test(26, "process: the process",
                () -> Range.check(0, 9, Refusal.INDEX, States.FULL, (x, process) -> x.lateBits(process)));
        s.test(26, "Returns the bits of the double, as by Double.doubleToLongBits, of the number of late give-ups divided by"
                + " the number of give-ups, or of 0.0 if there are none.", () -> {
            FeedbackQueueSimulator x = new FeedbackQueueSimulator();
            x.setOption(5, 0);
            x.spawn(0, 0, 3, -1, 20);
            Check.due("none", x.lateBits(0), Double.doubleToLongBits(0.0));
            for (int k = 1; k <= 9; k++) {
                x.run(3);
                Check.due("all of " + k, x.lateBits(0), Double.doubleToLongBits(1.0));
            }
            x.setOption(3, 0);
            for (int k = 10; k <= 19; k++) {
                x.run(3);
                Check.due("9 of " + k, x.lateBits(0), Double.doubleToLongBits(9.0 / (double) k));
            }
            FeedbackQueueSimulator y = new FeedbackQueueSimulator();
            y.spawn(0, 0, 1, 1, 2);
            y.tick();
            Check.due("none of one", y.lateBits(0), Double.doubleToLongBits(0.0));
        });
        s.test(26, "Throws IndexOutOfBoundsException if there is no such process", () -> {
            Refusal.check(Refusal.INDEX, States.FRESH, x -> x.lateBits(0));
            Refusal.check(Refusal.INDEX, States.BUSY, x -> x.lateBits(5));
            Refusal.check(Refusal.INDEX, States.BUSY, x -> x.lateBits(-1));
            Refusal.check(Refusal.INDEX, States.FULL, x -> x.lateBits(10));
        });
    }

    private static void meanBits(Sentences s) {
        s.test(27, "Returns a mean over all finished processes.", () -> {
            FeedbackQueueSimulator x = new FeedbackQueueSimulator();
            x.spawn(0, 0, 1, 0, 1);
            x.spawn(0, 0, 1, 0, 1);
            x.spawn(0, 0, 1, 0, 1);
            x.run(2);
            // Process 2 waited for two ticks, but is not finished, and then killed.
            Check.due("one of them is ready", x.meanBits(0), Double.doubleToLongBits(0.5));
            x.kill(2);
            Check.due("one of them is killed", x.meanBits(0), Double.doubleToLongBits(0.5));
        });
        s.test(27, "what: 0 for the ticks waited in queues, 1 for the turnaround (end minus the clock when it was created), 2 for"
                + " the response (clock when it ran for the first time minus the clock when it was created)", () -> {
            FeedbackQueueSimulator x = new FeedbackQueueSimulator();
            x.run(7);
            x.spawn(0, 0, 1, 0, 1);
            x.tick();
            double[] least = {0.0, 1.0, 0.0};
            for (int what = 0; what < 3; what++) {
                Check.due("the least, " + what, x.meanBits(what), Double.doubleToLongBits(least[what]));
            }
            x.spawn(0, 0, 1, 3, 2);
            x.spawn(0, 0, 1, 0, 1);
            x.run(9);
            // Created at 8: process 1 runs at 8 and 12, process 2 at 9.
            double[] means = {1.0 / 3.0, (1 + 5 + 2) / 3.0, 1.0 / 3.0};
            for (int what = 0; what < 3; what++) {
                Check.due("three of them, " + what, x.meanBits(what), Double.doubleToLongBits(means[what]));
            }
        });
        s.test(27, "Returns the bits of the double, as by Double.doubleToLongBits, of the sum divided by the number of finished"
                + " processes.", () -> {
            // Ten processes that take turns: the waits are 0 to 9, and one more is finished at each tick.
            FeedbackQueueSimulator x = new FeedbackQueueSimulator();
            for (int p = 0; p < 10; p++) {
                x.spawn(0, 0, 1, 0, 1);
            }
            int sum = 0;
            for (int p = 0; p < 10; p++) {
                x.tick();
                sum += p;
                Check.due("waits of " + p, x.meanBits(0), Double.doubleToLongBits((double) sum / (double) (p + 1)));
                Check.due("turnaround of " + p, x.meanBits(1),
                        Double.doubleToLongBits((double) (sum + p + 1) / (double) (p + 1)));
            }
        });
        s.test(27, "Throws IllegalArgumentException if what is not from 0 to 2", () -> {
            Range.check(0, 2, Refusal.ARGUMENT, States.OVER, (x, what) -> x.meanBits(what));
            Refusal.check(Refusal.ARGUMENT, States.FRESH, x -> x.meanBits(3));
            Refusal.check(Refusal.ARGUMENT, States.FULL, x -> x.meanBits(-1));
        });
        s.test(27, "Throws IllegalStateException if no process is finished", () -> {
            for (int k = 0; k < 3; k++) {
                int what = k;
                Refusal.check(Refusal.STATE, States.FRESH, x -> x.meanBits(what));
                Refusal.check(Refusal.STATE, States.FULL, x -> x.meanBits(what));
                Refusal.check(Refusal.STATE, AccountingCases::onlyKilled, x -> x.meanBits(what));
            }
        });
    }

    private static FeedbackQueueSimulator onlyKilled() {
        FeedbackQueueSimulator x = new FeedbackQueueSimulator();
        x.spawn(0, 0, 3, 0, 1);
        x.tick();
        x.kill(0);
        return x;
    }

    private static void total(Sentences s) {
        s.test(28, "Returns a total since the creation of the machine.", () -> {
            for (int what = 0; what < 8; what++) {
                Check.due("at first " + what, new FeedbackQueueSimulator().total(what), 0);
            }
        });
        s.test(28, "what: 0 for idle ticks, 1 for context switches, 2 for preemptions, 3 for boosts, 4 for decays, 5 for"
                + " processes created, 6 for processes finished, 7 for processes killed", AccountingCases::totals);
        s.test(28, "Returns the total.", () -> {
            FeedbackQueueSimulator x = new FeedbackQueueSimulator();
            for (int k = 0; k < 400; k++) {
                x.run(200);
            }
            Check.due("80000 idle ticks", x.total(0), 80000);
        });
        s.test(28, "Throws IllegalArgumentException if what is not from 0 to 7", () -> {
            for (Supplier<FeedbackQueueSimulator> state : States.ALL) {
                Range.check(0, 7, Refusal.ARGUMENT, state, (x, what) -> x.total(what));
            }
        });
    }

    private static void totals() {
        FeedbackQueueSimulator x = new FeedbackQueueSimulator();
        x.setOption(0, 6);
        x.setOption(1, 4);
        x.run(1);
        x.spawn(0, 0, 30, 0, 1);
        // Ticks 1 to 4 at level 0, tick 5 at level 1; a boost at 6; 10 at level 1.
        x.run(10);
        x.spawn(0, 0, 1, 0, 1);
        x.tick();
        x.kill(0);
        x.run(2);
        // Boosts at 6 and 12, decays at 4, 8 and 12; process 1 preempts process 0 at 11.
        int[] due = {3, 2, 1, 2, 3, 2, 1, 1};
        for (int what = 0; what < 8; what++) {
            Check.due("total " + what, x.total(what), due[what]);
        }
    }
}
