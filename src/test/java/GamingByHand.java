/** Accounting and detection, worked out by hand: a process that yields shortly before its allotment is over. */
final class GamingByHand {
    private GamingByHand() {
    }

    static void check() {
        Check.about("strict accounting");
        strict();
        Check.about("lenient accounting");
        lenient();
        Check.about("margins");
        margins();
        Check.about("limits");
        limits();
        Check.about("");
    }

    /** Process 0 yields behind each 3 ticks, one tick before its allotment of 4 is over; process 1 computes. */
    static FeedbackQueueSimulator gamer(int accounting) {
        FeedbackQueueSimulator x = new FeedbackQueueSimulator();
        x.setOption(5, accounting);
        x.spawn(0, 0, 3, -1, 20);
        x.spawn(1, 0, 30, 0, 20);
        return x;
    }

    private static void strict() {
        Table.follow("row", () -> gamer(1),
                " 0 0  1  - -   C0.1.1 R0.0",
                " 1 0 10  - -   R0.2   R0.0",
                " 2 1  0  - -   R0.2   C0.1.1",
                " 3 1 01  - -   R0.2   R0.2",
                // Late: 4 - 3 is the margin of 1. The budget of 3 stays.
                " 4 0 10  - -   R0.3   R0.2",
                " 5 1  0  - -   R0.3   C0.3.1",
                " 6 1  0  1 -   R0.3   R1.0",
                // One tick more, and the allotment is over.
                " 7 0  - 10 -   R1.0   R1.0",
                " 8 1  -  0 -   R1.0   C1.1.3",
                " 9 1  -  0 -   R1.0   C1.2.2",
                "10 1  -  0 -   R1.0   C1.3.1",
                "11 1  - 01 -   R1.0   R1.4",
                "12 0  -  1 -   C1.1.3 R1.4",
                // Not late: 8 - 2 is 6.
                "13 0  - 10 -   R1.2   R1.4",
                "14 1  -  0 -   R1.2   C1.5.3",
                "15 1  -  0 -   R1.2   C1.6.2",
                "16 1  -  0 -   R1.2   C1.7.1",
                "17 1  -  0 1   R1.2   R2.0",
                "18 0  -  - 1   C1.3.3 R2.0",
                "19 0  -  - 1   C1.4.2 R2.0",
                "20 0  -  0 1   R1.5   R2.0",
                "21 0  -  - 1   C1.6.3 R2.0",
                "22 0  -  - 1   C1.7.2 R2.0",
                // The allotment of 8 is over with the computation: demoted, and a give-up that is not late.
                "23 0  - - 10   R2.0   R2.0",
                "24 1  - - 0    R2.0   C2.1.7");
        FeedbackQueueSimulator x = gamer(1);
        Check.due("no give-up yet: 0.0", x.lateBits(0), 0L);
        x.run(5);
        Check.due("1 of 1", x.lateBits(0), 0x3FF0000000000000L);
        x.run(9);
        Check.due("1 of 2", x.lateBits(0), 0x3FE0000000000000L);
        x.run(7);
        Check.due("1 of 3", x.lateBits(0), 0x3FD5555555555555L);
        x.run(4);
        Check.due("1 of 4", x.lateBits(0), 0x3FD0000000000000L);
        TicksByHand.properties(x, 0, 0, 0, 2, 0, 0, 12, 13, 0, -1, 4, 1, 2);
        TicksByHand.properties(x, 1, 1, 0, 2, 1, 7, 13, 12, 2, -1, 0, 0, 2);
        Check.due("one late give-up makes no suspect", x.suspects(), 0);
        TicksByHand.totals(x, 0, 10, 0, 0, 0, 2, 0, 0);
    }

    private static void lenient() {
        Table.follow("row", () -> gamer(0),
                " 0 0  1 - -   C0.1.1 R0.0",
                " 1 0 10 - -   R0.2   R0.0",
                " 2 1  0 - -   R0.2   C0.1.1",
                " 3 1 01 - -   R0.2   R0.2",
                // Late all the same, and the budget becomes 0.
                " 4 0 10 - -   R0.0   R0.2",
                " 5 1  0 - -   R0.0   C0.3.1",
                // Without a give-up the allotment is over as before.
                " 6 1  0 1 -   R0.0   R1.0",
                " 7 0  - 1 -   C0.1.1 R1.0",
                " 8 0  0 1 -   R0.2   R1.0",
                " 9 0  0 1 -   R0.0   R1.0",
                "10 0  - 1 -   C0.1.1 R1.0",
                "11 0  0 1 -   R0.2   R1.0",
                "12 0  0 1 -   R0.0   R1.0",
                "13 0  - 1 -   C0.1.1 R1.0");
        FeedbackQueueSimulator x = gamer(0);
        x.run(12);
        Check.due("2 late give-ups", x.suspects(), 0);
        x.tick();
        Check.due("3 late give-ups", x.suspects(), 1);
        Check.due("all of them were late: 1.0", x.lateBits(0), 0x3FF0000000000000L);
        Check.due("process 1 never gave up", x.lateBits(1), 0L);
        TicksByHand.properties(x, 0, 0, 0, 0, 0, 0, 9, 4, 0, -1, 3, 3, 0);
        TicksByHand.properties(x, 1, 1, 0, 1, 0, 0, 4, 9, 2, -1, 0, 0, 1);
        TicksByHand.totals(x, 0, 5, 0, 0, 0, 2, 0, 0);
    }

    /** An allotment of 12 at level 0 and a give-up behind each tick: the budgets are 1 to 11, then 0 at level 1. */
    private static void margins() {
        // With a margin of m the budgets from 12 - m on are late, but not the one that became 0.
        int[] lateOnes = {0, 1, 2, 3, 4, 5, 6, 7, 8, 9};
        for (int margin = 0; margin <= 9; margin++) {
            FeedbackQueueSimulator x = new FeedbackQueueSimulator();
            x.setLevel(0, 5, 12, 0);
            x.setOption(3, margin);
            x.spawn(0, 0, 1, -1, 20);
            x.run(12);
            Check.due("give-ups", x.property(0, 9), 12);
            Check.due("level", x.property(0, 2), 1);
            Check.due("late with a margin of " + margin, x.property(0, 10), lateOnes[margin]);
        }
    }

    /** Process k has k late give-ups; all others of it are early ones. */
    private static void limits() {
        FeedbackQueueSimulator x = new FeedbackQueueSimulator();
        x.setLevels(1);
        x.setLevel(0, 20, 3, 0);
        x.setOption(5, 0);
        // Two ticks of an allotment of 3 are late, one is not.
        Check.good(x, "spawn00=c1yc1;spawn00=c2yc1yc1;", 2);
        Check.good(x, "spawn00=c2yc1yc2yc1;spawn00=(c2y)3c1;", 2);
        x.run(60);
        int[] late = {0, 1, 2, 3};
        int[] giveUps = {1, 2, 3, 3};
        for (int p = 0; p < 4; p++) {
            Check.due("late of " + p, x.property(p, 10), late[p]);
            Check.due("give-ups of " + p, x.property(p, 9), giveUps[p]);
        }
        Check.due("2 of 3", x.lateBits(2), 0x3FE5555555555555L);
        int[] suspects = {0, 14, 12, 8, 0};
        for (int limit = 1; limit <= 4; limit++) {
            x.setOption(4, limit);
            Check.due("a limit of " + limit, x.suspects(), suspects[limit]);
        }
    }
}
