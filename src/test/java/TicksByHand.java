/** The seven parts of a tick: whole lives, and the order of the parts, worked out by hand from the description. */
final class TicksByHand {
    private TicksByHand() {
    }

    static void check() {
        Check.about("three lives");
        threeLives();
        Check.about("a pinned process and two boosts");
        pinnedLife();
        Check.about("a program in parentheses");
        nestedProgram();
        Check.about("the order of the parts");
        wakingBeforeBoost();
        wakingBeforePreemption();
        wakingBeforeDispatch();
        wakingBehindTheTickBefore();
        boostBeforePreemption();
        boostBeforeDispatch();
        boostBeforeDemotion();
        decayBeforeDispatch();
        decayBeforeCharge();
        chargeBeforeDemotion();
        endBeforeDemotion();
        demotionBeforeGiveUp();
        Check.about("");
    }

    /** Quanta 2, 4, 8 and allotments 4, 8, 16, as at first. */
    static FeedbackQueueSimulator threeProcesses() {
        FeedbackQueueSimulator x = new FeedbackQueueSimulator();
        Check.good(x, "spawn00=c6i3c5;spawn11=(c1i4)3;spawn20=c2yc3yc9;", 3);
        return x;
    }

    private static void threeLives() {
        Table.follow("row", TicksByHand::threeProcesses,
                // Process 0 has its quantum of 2 and goes behind the others.
                " 0 0  12 -  -   C0.1.1 R0.0   R0.0",
                " 1 0 120 -  -   R0.2   R0.0   R0.0",
                // Process 1 computes for 1 tick; its operation of 4 ends at 2 + 1 + 4 = 7.
                " 2 1  20 -  -   R0.2   W0.1   R0.0",
                " 3 2   0 -  -   R0.2   W0.1   C0.1.1",
                // Process 2 yields where its quantum is over too: it is appended once.
                " 4 2  02 -  -   R0.2   W0.1   R0.2",
                " 5 0   2 -  -   C0.3.1 W0.1   R0.2",
                // The budget of process 0 is 4, the allotment: it goes to level 1 with a budget of 0.
                " 6 0   2 0  -   R1.0   W0.1   R0.2",
                // At 7 process 1 is woken and goes behind process 2, which runs.
                " 7 2   1 0  -   R1.0   R0.1   C0.3.1",
                " 8 2   1 02 -   R1.0   R0.1   R1.0",
                " 9 1   - 02 -   R1.0   W0.2   R1.0",
                // Level 1 has a quantum of 4.
                "10 0   - 2  -   C1.1.3 W0.2   R1.0",
                // The computation of 6 is over; the operation of 3 ends at 11 + 1 + 3 = 15.
                "11 0   - 2  -   W1.2   W0.2   R1.0",
                "12 2   - 2  -   W1.2   W0.2   R1.1",
                "13 2   - -  -   W1.2   W0.2   C1.2.3",
                // At 14 process 1 is woken at level 0: process 2 is preempted, and process 1 runs its last unit.
                "14 1   - 2  -   W1.2   F0.3   R1.2",
                "15 2   - 0  -   R1.2   F0.3   C1.3.3",
                "16 2   - 0  -   R1.2   F0.3   C1.4.2",
                "17 2   - 0  -   R1.2   F0.3   C1.5.1",
                "18 2   - 02 -   R1.2   F0.3   R1.6",
                "19 0   - 2  -   C1.3.3 F0.3   R1.6",
                "20 0   - 2  -   C1.4.2 F0.3   R1.6",
                "21 0   - 2  -   C1.5.1 F0.3   R1.6",
                "22 0   - 20 -   R1.6   F0.3   R1.6",
                "23 2   - 0  -   R1.6   F0.3   C1.7.3",
                "24 2   - 0  2   R1.6   F0.3   R2.0",
                // Process 0 is through with its last unit: it has the level and the budget of its last tick.
                "25 0   - -  2   F1.7   F0.3   R2.0",
                "26 2   - -  -   F1.7   F0.3   C2.1.7",
                "27 2   - -  -   F1.7   F0.3   F2.2",
                "28 -   - -  -   F1.7   F0.3   F2.2");
        FeedbackQueueSimulator x = threeProcesses();
        Check.due("idle ticks", x.run(29), 1);
        // User, kind, level, budget, quantum, ran, waited, first run, end, give-ups, late ones, demotions.
        properties(x, 0, 0, 0, 1, 7, 0, 11, 12, 0, 26, 1, 0, 1);
        properties(x, 1, 1, 1, 0, 3, 0, 3, 4, 2, 15, 2, 0, 0);
        properties(x, 2, 2, 0, 2, 2, 0, 14, 14, 3, 28, 2, 0, 2);
        // Process 2 was dispatched at 13 right behind its own tick: that is no switch.
        totals(x, 1, 14, 1, 0, 0, 3, 3, 0);
        entries(x, "0 0 4", "1 0 3", "2 0 4", "0 1 7", "2 1 8", "2 2 2");
        // Waits 12 + 4 + 14, turnarounds 26 + 15 + 28, responses 0 + 2 + 3, each divided by 3.
        Check.due("mean wait", x.meanBits(0), 0x4024000000000000L);
        Check.due("mean turnaround", x.meanBits(1), 0x4037000000000000L);
        Check.due("mean response", x.meanBits(2), 0x3FFAAAAAAAAAAAABL);
        int[] past = {-1, 2, 2, 0, 2, 2, 0, 0, 0, 0, 2, 2, 2, 2, 1, 2, 2, 0, 0, 1, 2, 2, 0, 0, 2, 2, 1, 0, 0};
        for (int back = 0; back < past.length; back++) {
            Check.due("history " + back, x.history(back), past[back]);
        }
    }

    /** Process 0 gives up the processor behind each 3 ticks and is held by a pin; process 1 only computes. */
    static FeedbackQueueSimulator pinnedAndBatch() {
        FeedbackQueueSimulator x = new FeedbackQueueSimulator();
        x.setOption(0, 10);
        x.setOption(3, 2);
        x.spawn(0, 1, 3, 2, 5);
        x.spawn(1, 0, 30, 0, 1);
        x.pin(0, 0);
        return x;
    }

    private static void pinnedLife() {
        Table.follow("row", TicksByHand::pinnedAndBatch,
                " 0 0  1 - -   C0.1.1 R0.0",
                " 1 0 10 - -   R0.2   R0.0",
                " 2 1  0 - -   R0.2   C0.1.1",
                " 3 1 01 - -   R0.2   R0.2",
                // 4 - 3 is at most the margin of 2: late. The accounting is strict: the budget stays.
                " 4 0  1 - -   W0.3   R0.2",
                " 5 1  - - -   W0.3   C0.3.1",
                " 6 1  - 1 -   W0.3   R1.0",
                // The operation ends at 4 + 1 + 2 = 7; the pin makes the budget 0, and the tick makes it 1.
                " 7 0  - 1 -   C0.1.1 R1.0",
                " 8 0  0 1 -   R0.2   R1.0",
                " 9 0  - 1 -   W0.3   R1.0",
                // A boost: the waiting process too has a budget of 0.
                "10 1  - - -   W0.0   C0.1.1",
                "11 1  1 - -   W0.0   R0.2",
                "12 1  0 - -   R0.0   C0.3.1",
                "13 1  0 1 -   R0.0   R1.0",
                "14 0  - 1 -   C0.1.1 R1.0",
                "15 0  0 1 -   R0.2   R1.0",
                "16 0  - 1 -   W0.3   R1.0",
                "17 1  - - -   W0.3   C1.1.3",
                "18 1  - - -   W0.3   C1.2.2",
                // Woken at 16 + 1 + 2 = 19 at level 0: process 1 is preempted.
                "19 0  - 1 -   C0.1.1 R1.2",
                // A boost: 2 ticks of quantum and a budget of 0 for the current process, before it runs.
                "20 0  1 - -   C0.1.1 R0.0",
                // Behind 2 ticks of its allotment of 4: 4 - 2 is at most 2, late again.
                "21 0  1 - -   W0.2   R0.0",
                "22 1  - - -   W0.2   C0.1.1",
                "23 1  1 - -   W0.2   R0.2",
                "24 1  0 - -   R0.0   C0.3.1",
                "25 1  0 1 -   R0.0   R1.0",
                "26 0  - 1 -   C0.1.1 R1.0",
                "27 0  0 1 -   R0.2   R1.0",
                "28 0  - 1 -   F0.3   R1.0");
        FeedbackQueueSimulator x = pinnedAndBatch();
        x.run(16);
        Check.due("two late give-ups are below the limit of 3", x.suspects(), 0);
        x.tick();
        Check.due("the third one", x.suspects(), 1);
        x.run(12);
        properties(x, 0, 0, 1, 0, 3, 0, 15, 6, 0, 29, 4, 4, 0);
        properties(x, 1, 1, 0, 1, 0, 0, 14, 15, 2, -1, 0, 0, 3);
        Check.due("all give-ups were late: 1.0", x.lateBits(0), 0x3FF0000000000000L);
        totals(x, 0, 11, 1, 2, 0, 2, 1, 0);
        entries(x, "0 0 15", "1 0 12", "1 1 2");
    }

    private static void nestedProgram() {
        // The units are c1y c1y c2 c1y c1y c2 c1, and the operation of the last one is ignored.
        Table.follow("row", () -> {
            FeedbackQueueSimulator x = new FeedbackQueueSimulator();
            Check.good(x, "spawn30=((c1y)2c2)2c1i9;", 1);
            return x;
        },
                "0 0 0 - -   R0.1",
                "1 0 0 - -   R0.2",
                "2 0 - - -   C0.3.1",
                "3 0 - 0 -   R1.0",
                "4 0 - 0 -   R1.1",
                "5 0 - 0 -   R1.2",
                "6 0 - - -   C1.3.3",
                // A unit without a give-up goes over into the next one.
                "7 0 - - -   C1.4.2",
                "8 0 - - -   F1.5",
                "9 - - - -   F1.5");
        FeedbackQueueSimulator x = new FeedbackQueueSimulator();
        Check.good(x, "spawn30=((c1y)2c2)2c1i9;", 1);
        x.run(10);
        properties(x, 0, 3, 0, 1, 5, 0, 9, 0, 0, 9, 4, 0, 1);
        totals(x, 1, 1, 0, 0, 0, 1, 1, 0);
    }

    /** Part 1 before part 2: boosted first, process 0 would be behind 1 and 2 in the queue of level 0. */
    private static void wakingBeforeBoost() {
        Table.follow("waking before boost", () -> {
            FeedbackQueueSimulator x = new FeedbackQueueSimulator();
            x.setLevel(0, 1, 1, 0);
            x.setLevel(1, 1, 1, 0);
            x.setLevel(2, 1, 40, 0);
            x.setOption(0, 7);
            x.spawn(0, 0, 1, 6, 2);
            x.spawn(0, 0, 30, 0, 1);
            x.spawn(0, 0, 30, 0, 1);
            return x;
        },
                "0 0 12  -  -   W1.0 R0.0 R0.0",
                "1 1  2  1  -   W1.0 R1.0 R0.0",
                "2 2  - 12  -   W1.0 R1.0 R1.0",
                "3 1  -  2  1   W1.0 R2.0 R1.0",
                "4 2  -  - 12   W1.0 R2.0 R2.0",
                "5 1  -  - 21   W1.0 R2.1 R2.0",
                "6 2  -  - 12   W1.0 R2.1 R2.1",
                "7 0 12  -  -   F0.1 R0.0 R0.0");
    }

    /** Part 1 before part 4: woken behind it, process 0 would preempt process 1 a tick later. */
    private static void wakingBeforePreemption() {
        Table.follow("waking before preemption", () -> {
            FeedbackQueueSimulator x = new FeedbackQueueSimulator();
            x.spawn(0, 0, 1, 5, 2);
            x.spawn(0, 0, 30, 0, 1);
            return x;
        },
                "0 0 1 - -   W0.1 R0.0",
                "1 1 - - -   W0.1 C0.1.1",
                "2 1 1 - -   W0.1 R0.2",
                "3 1 - - -   W0.1 C0.3.1",
                "4 1 - 1 -   W0.1 R1.0",
                "5 1 - - -   W0.1 C1.1.3",
                "6 0 - 1 -   F0.2 R1.1",
                // Dispatched anew: the whole quantum of 4, less the tick that runs.
                "7 1 - - -   F0.2 C1.2.3");
    }

    /** Part 1 before part 5: a free processor is given to a process in the tick in which it is woken. */
    private static void wakingBeforeDispatch() {
        Table.follow("waking before dispatch", () -> {
            FeedbackQueueSimulator x = new FeedbackQueueSimulator();
            x.spawn(0, 0, 1, 2, 2);
            return x;
        },
                "0 0 - - -   W0.1",
                "1 - - - -   W0.1",
                "2 - - - -   W0.1",
                "3 0 - - -   F0.2");
    }

    /** Part 7 of a tick before part 1 of the next: process 1 yields at 1, process 0 is woken at 2. */
    private static void wakingBehindTheTickBefore() {
        Table.follow("waking behind the tick before", () -> {
            FeedbackQueueSimulator x = new FeedbackQueueSimulator();
            x.spawn(0, 0, 1, 1, 3);
            x.spawn(0, 0, 1, -1, 3);
            return x;
        },
                "0 0 1 - -   W0.1 R0.0",
                "1 1 1 - -   W0.1 R0.1",
                "2 1 01 - -   R0.1 R0.2",
                "3 0 1 - -   W0.2 R0.2",
                "4 1 - - -   W0.2 F0.3",
                "5 0 - - -   F0.3 F0.3");
    }

    /** Part 2 before part 4: preempted first, process 0 would leave the processor to process 1. */
    private static void boostBeforePreemption() {
        Table.follow("boost before preemption", () -> {
            FeedbackQueueSimulator x = new FeedbackQueueSimulator();
            x.spawn(0, 0, 30, 0, 1);
            x.run(5);
            x.spawn(0, 0, 30, 0, 1);
            x.setOption(0, 5);
            return x;
        },
                "5 0 1 - -   C0.1.1 R0.0",
                "6 0 10 - -   R0.2   R0.0",
                "7 1 0 - -   R0.2   C0.1.1");
    }

    /** Part 2 before part 5: dispatched first, process 0 would run at level 1 or before process 1. */
    private static void boostBeforeDispatch() {
        Table.follow("boost before dispatch", () -> {
            FeedbackQueueSimulator x = new FeedbackQueueSimulator();
            x.spawn(0, 0, 30, 0, 1);
            x.run(4);
            x.setOption(0, 4);
            return x;
        }, "4 0 - - -   C0.1.1");
        FeedbackQueueSimulator x = new FeedbackQueueSimulator();
        x.setOption(0, 4);
        x.spawn(0, 0, 30, 0, 1);
        x.run(5);
        Check.due("charged to level 0", x.usageOf(0, 0), 5);
        Check.due("charged to level 1", x.usageOf(0, 1), 0);
    }

    /** Part 2 before part 7: without the boost the fourth tick would be the last one at level 0. */
    private static void boostBeforeDemotion() {
        Table.follow("boost before demotion", () -> {
            FeedbackQueueSimulator x = new FeedbackQueueSimulator();
            x.setOption(0, 3);
            x.spawn(0, 0, 30, 0, 1);
            return x;
        },
                "0 0 - - -   C0.1.1",
                "1 0 0 - -   R0.2",
                "2 0 - - -   C0.3.1",
                "3 0 - - -   C0.1.1",
                "4 0 0 - -   R0.2",
                "5 0 - - -   C0.3.1",
                "6 0 - - -   C0.1.1");
    }

    /** Part 3 before part 5: without the decay user 1 would have the lesser ratio at clock 3. */
    private static void decayBeforeDispatch() {
        for (int period = 0; period <= 3; period += 3) {
            int p = period;
            Table.follow("decay before dispatch, period " + period, () -> {
                FeedbackQueueSimulator x = new FeedbackQueueSimulator();
                x.setLevel(0, 1, 40, 1);
                x.setOption(1, p);
                x.setOption(2, 0);
                x.spawn(1, 0, 30, 0, 1);
                x.spawn(0, 0, 30, 0, 1);
                return x;
            },
                    // Ratios of users 0 and 1 before the tick: 0 0, 1 0, 1 1, and then 2 1 or 0 0.
                    "0 1 01 - -   R0.0 R0.1",
                    "1 0 10 - -   R0.1 R0.1",
                    "2 1 01 - -   R0.1 R0.2",
                    period == 0 ? "3 0 10 - -   R0.2 R0.2" : "3 1 01 - -   R0.1 R0.3");
        }
    }

    /** Part 3 before part 6: 1, 2, then 2 * 8 / 16 + 1; the other way round it would be 1.5. */
    private static void decayBeforeCharge() {
        FeedbackQueueSimulator x = new FeedbackQueueSimulator();
        x.setOption(1, 2);
        x.spawn(0, 0, 30, 0, 1);
        int[] bits = {0x3F800000, 0x40000000, 0x40000000, 0x40400000, 0x40200000};
        for (int t = 0; t < bits.length; t++) {
            x.tick();
            Check.due("usage behind the tick at " + t, x.ratioBits(0), bits[t]);
        }
    }

    /** Part 6 before part 7: the tick that spends the allotment is charged to the level before it. */
    private static void chargeBeforeDemotion() {
        FeedbackQueueSimulator x = new FeedbackQueueSimulator();
        x.spawn(2, 0, 30, 0, 1);
        x.run(4);
        Check.due("level", x.property(0, 2), 1);
        entries(x, "2 0 4");
        x.run(8);
        entries(x, "2 0 4", "2 1 8");
        x.tick();
        entries(x, "2 0 4", "2 1 8", "2 2 1");
    }

    /** A process that is through is neither demoted nor does it give up the processor. */
    private static void endBeforeDemotion() {
        FeedbackQueueSimulator x = new FeedbackQueueSimulator();
        Check.good(x, "spawn00=c4i5;", 1);
        Check.due("no idle tick before its end", x.run(4), 0);
        properties(x, 0, 0, 0, 0, 4, 0, 4, 0, 0, 4, 0, 0, 0);
        Check.due("state", x.state(0), 3);
    }

    /** Demoted and giving up in one tick: the budget became 0, so it is not late, whatever the margin. */
    private static void demotionBeforeGiveUp() {
        Table.follow("demotion before give-up", () -> {
            FeedbackQueueSimulator x = new FeedbackQueueSimulator();
            x.setOption(3, 9);
            Check.good(x, "spawn00=c4i2c8yc1;", 1);
            return x;
        },
                "0  0 - - -   C0.1.1",
                "1  0 0 - -   R0.2",
                "2  0 - - -   C0.3.1",
                "3  0 - - -   W1.0",
                "4  - - - -   W1.0",
                "5  - - - -   W1.0",
                "6  0 - - -   C1.1.3",
                "7  0 - - -   C1.2.2",
                "8  0 - - -   C1.3.1",
                "9  0 - 0 -   R1.4",
                "10 0 - - -   C1.5.3",
                "11 0 - - -   C1.6.2",
                "12 0 - - -   C1.7.1",
                "13 0 - - 0   R2.0",
                "14 0 - - -   F2.1");
        FeedbackQueueSimulator x = new FeedbackQueueSimulator();
        x.setOption(3, 9);
        Check.good(x, "spawn00=c4i2c8yc1;", 1);
        x.run(15);
        properties(x, 0, 0, 0, 2, 1, 0, 13, 0, 0, 15, 2, 0, 2);
    }

    static void properties(FeedbackQueueSimulator x, int process, int... due) {
        for (int what = 0; what < 12; what++) {
            Check.due("property " + what + " of " + process, x.property(process, what), due[what]);
        }
    }

    static void totals(FeedbackQueueSimulator x, int... due) {
        for (int what = 0; what < 8; what++) {
            Check.due("total " + what, x.total(what), due[what]);
        }
    }

    /** The usage table: user, level and ticks of each entry. */
    static void entries(FeedbackQueueSimulator x, String... due) {
        Check.due("entries", x.usageEntries(), due.length);
        for (int k = 0; k < due.length && k < x.usageEntries(); k++) {
            String got = x.usageEntry(k, 0) + " " + x.usageEntry(k, 1) + " " + x.usageEntry(k, 2);
            Check.due("entry " + k, got, due[k]);
        }
    }
}
