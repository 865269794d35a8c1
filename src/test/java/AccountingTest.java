/** Promises 21 to 28. */
public final class AccountingTest {
    public static void main(String[] args) {
        table();
        ratios();
        smallRatios();
        suspects();
        late();
        means();
        totals();
        Check.end();
    }

    private static void table() {
        FeedbackQueueSimulator x = new FeedbackQueueSimulator();
        x.spawn(2, 0, 6, 0, 1);
        x.spawn(1, 0, 3, 0, 1);
        x.spawn(2, 0, 1, 0, 1);
        Check.due("21: none", x.usageEntries(), 0);
        x.tick();
        Check.due("21: one", x.usageEntries(), 1);
        x.run(9);
        // 2 runs 6 ticks, 4 of them at level 0, and 1 more at level 0; 1 runs 3.
        int[][] entries = {{2, 0, 5}, {1, 0, 3}, {2, 1, 2}};
        Check.due("21: three", x.usageEntries(), 3);
        for (int k = 0; k < 3; k++) {
            for (int what = 0; what < 3; what++) {
                Check.due("22: entry " + k + ", " + what, x.usageEntry(k, what), entries[k][what]);
            }
            Check.due("23: " + k, x.usageOf(entries[k][0], entries[k][1]), entries[k][2]);
        }
        Check.failsIndex("22: entry 3", () -> x.usageEntry(3, 0));
        Check.failsIndex("22: entry -1", () -> x.usageEntry(-1, 0));
        Check.failsIndex("22: index before argument", () -> x.usageEntry(3, 3));
        Check.failsArgument("22: 3", () -> x.usageEntry(0, 3));
        Check.failsArgument("22: -1", () -> x.usageEntry(0, -1));
        Check.due("23: no entry", x.usageOf(0, 0), 0);
        Check.due("23: no entry", x.usageOf(1, 2), 0);
        Check.failsIndex("23: user 4", () -> x.usageOf(4, 0));
        Check.failsIndex("23: user -1", () -> x.usageOf(-1, 0));
        Check.failsIndex("23: level 3", () -> x.usageOf(0, 3));
        Check.failsIndex("23: level -1", () -> x.usageOf(0, -1));
        fullTable();
    }

    private static void fullTable() {
        FeedbackQueueSimulator x = new FeedbackQueueSimulator();
        x.setLevels(5);
        for (int level = 0; level < 5; level++) {
            x.setLevel(level, 1, 1, 0);
        }
        for (int user = 3; user >= 0; user--) {
            x.spawn(user, 0, 8, 0, 1);
        }
        x.run(40);
        Check.due("21: all pairs", x.usageEntries(), 20);
        for (int k = 0; k < 20; k++) {
            Check.due("22: user", x.usageEntry(k, 0), 3 - k % 4);
            Check.due("22: level", x.usageEntry(k, 1), k / 4);
            Check.due("22: ticks", x.usageEntry(k, 2), k / 4 == 4 ? 4 : 1);
        }
    }

    private static void ratios() {
        FeedbackQueueSimulator x = new FeedbackQueueSimulator();
        x.spawn(3, 0, 30, 0, 20);
        for (int t = 1; t <= 120; t++) {
            x.tick();
            for (int weight = 1; weight <= 9 && t % 10 == 0; weight++) {
                x.setShare(3, weight);
                Check.due("24: " + t + " / " + weight, x.ratioBits(3),
                        Float.floatToIntBits((float) t / (float) weight));
            }
        }
        Check.due("24: another user", x.ratioBits(2), 0);
        Check.failsIndex("24: user 4", () -> x.ratioBits(4));
        Check.failsIndex("24: user -1", () -> x.ratioBits(-1));
    }

    /** Many decays lead through the subnormal floats. */
    private static void smallRatios() {
        for (int factor = 1; factor <= 16; factor++) {
            FeedbackQueueSimulator x = new FeedbackQueueSimulator();
            x.spawn(0, 0, 3, 0, 1);
            x.run(3);
            x.setOption(1, 1);
            x.setOption(2, factor);
            float usage = 3.0f;
            for (int k = 0; k < 160; k++) {
                x.run(3);
                for (int decays = 0; decays < 3; decays++) {
                    usage = usage * ((float) factor / 16.0f);
                }
                x.setShare(0, k % 9 + 1);
                Check.due("24: factor " + factor + ", " + k, x.ratioBits(0),
                        Float.floatToIntBits(usage / (float) (k % 9 + 1)));
            }
        }
    }

    private static void suspects() {
        FeedbackQueueSimulator x = new FeedbackQueueSimulator();
        x.setLevel(0, 20, 40, 0);
        x.setOption(3, 9);
        x.setOption(5, 0);
        x.spawn(0, 0, 30, 0, 1);
        x.spawn(0, 0, 30, 0, 1);
        // With a budget of 31 or more of 40 a give-up is late.
        Check.good(x, "spawn00=c30c1y(c30c1i1)2c1;", 1);
        x.kill(0);
        x.kill(1);
        x.run(31);
        Check.due("25: below the limit", x.suspects(), 0);
        x.setOption(4, 1);
        Check.due("25: at the limit", x.suspects(), 4);
        x.setOption(4, 3);
        x.run(63);
        Check.due("25: at the limit of 3", x.suspects(), 4);
        x.setOption(4, 4);
        Check.due("25: a limit of 4", x.suspects(), 0);
        x.setOption(4, 2);
        x.run(20);
        Check.due("25: finished", x.state(2), 3);
        Check.due("25: in any state", x.suspects(), 4);
        FeedbackQueueSimulator y = new FeedbackQueueSimulator();
        y.setOption(4, 1);
        for (int p = 0; p < 10; p++) {
            y.spawn(0, 0, 3, p % 3 == 0 ? 1 : -1, p % 2 == 0 ? 2 : 1);
        }
        y.run(60);
        Check.due("25: all with two units", y.suspects(), 1 + 4 + 16 + 64 + 256);
    }

    private static void late() {
        FeedbackQueueSimulator x = new FeedbackQueueSimulator();
        Check.failsIndex("26: none", () -> x.lateBits(0));
        x.setLevels(1);
        x.setLevel(0, 20, 40, 0);
        x.spawn(0, 0, 1, -1, 20);
        Check.due("26: no give-ups", x.lateBits(0), Double.doubleToLongBits(0.0));
        for (int budget = 1; budget < 20; budget++) {
            if (budget == 10) {
                // An allotment of 19 makes the give-ups with budgets of 10 to 18 late.
                x.setLevel(0, 20, 19, 0);
                x.setOption(3, 9);
            }
            x.tick();
            int late = budget < 10 ? 0 : (budget < 19 ? budget - 9 : 9);
            Check.due("26: late", x.property(0, 10), late);
            Check.due("26: share", x.lateBits(0), Double.doubleToLongBits((double) late / (double) budget));
        }
        Check.failsIndex("26: process 1", () -> x.lateBits(1));
        Check.failsIndex("26: process -1", () -> x.lateBits(-1));
    }

    private static void means() {
        FeedbackQueueSimulator x = new FeedbackQueueSimulator();
        x.run(5);
        x.spawn(0, 0, 3, 0, 1);
        x.spawn(0, 0, 2, 0, 1);
        x.tick();
        x.spawn(0, 0, 1, 0, 1);
        x.spawn(0, 0, 30, 0, 1);
        Check.failsState("27: none finished", () -> x.meanBits(0));
        Check.failsArgument("27: argument before state", () -> x.meanBits(3));
        Check.failsArgument("27: -1", () -> x.meanBits(-1));
        x.kill(3);
        x.run(10);
        // 0 runs at 5 6 10, 1 at 7 8, 2 at 9.
        Check.due("27: waited", x.meanBits(0), Double.doubleToLongBits((3 + 2 + 3) / 3.0));
        Check.due("27: turnaround", x.meanBits(1), Double.doubleToLongBits((6 + 4 + 4) / 3.0));
        Check.due("27: response", x.meanBits(2), Double.doubleToLongBits((0 + 2 + 3) / 3.0));
        FeedbackQueueSimulator y = new FeedbackQueueSimulator();
        y.spawn(0, 0, 1, 0, 1);
        y.tick();
        Check.due("27: zero", y.meanBits(0), Double.doubleToLongBits(0.0));
        Check.due("27: one", y.meanBits(1), Double.doubleToLongBits(1.0));
    }

    private static void totals() {
        FeedbackQueueSimulator x = new FeedbackQueueSimulator();
        x.setOption(0, 7);
        x.setOption(1, 5);
        x.run(2);
        x.spawn(0, 0, 6, 0, 1);
        x.spawn(0, 0, 20, 0, 1);
        x.run(5);
        x.spawn(0, 0, 1, 0, 1);
        x.run(3);
        x.kill(1);
        x.run(10);
        // Ticks 2 3 of 0, 4 5 of 1, 6 of 0; boost at 7: 0 goes on with 2 ticks and goes behind 2;
        // 9 of 1, which is killed; 10 of 2, 11 of 0.
        int[] due = {10, 6, 0, 2, 3, 3, 2, 1};
        for (int what = 0; what < 8; what++) {
            Check.due("28: total " + what, x.total(what), due[what]);
        }
        FeedbackQueueSimulator y = new FeedbackQueueSimulator();
        y.spawn(0, 0, 10, 0, 1);
        y.run(5);
        y.spawn(0, 0, 1, 0, 1);
        y.run(1);
        Check.due("28: preemptions", y.total(2), 1);
        Check.failsArgument("28: 8", () -> x.total(8));
        Check.failsArgument("28: -1", () -> x.total(-1));
    }
}
