/** Fair shares, usages and ratios, worked out by hand; the bits of floats were rounded by hand too. */
final class SharesByHand {
    private SharesByHand() {
    }

    static void check() {
        Check.about("weights of 1, 2 and 3");
        threeWeights();
        Check.about("a fair level below another one");
        fairBelow();
        Check.about("usages as floats");
        roundedUsage();
        Check.about("ratios as floats");
        roundedRatio();
        Check.about("");
    }

    /** One fair level with a quantum of 1; user 2 has process 0, user 1 has 1 and 3, user 0 has 2. */
    static FeedbackQueueSimulator weighted() {
        FeedbackQueueSimulator x = new FeedbackQueueSimulator();
        x.setLevels(1);
        Check.good(x, "level0=1,40,1;share1=2;share2=3;decay=6;factor=8;", 5);
        for (int user : new int[] {2, 1, 0, 1}) {
            x.spawn(user, 0, 30, 0, 1);
        }
        return x;
    }

    private static void threeWeights() {
        Table.follow("row", SharesByHand::weighted,
                // Ratios of users 0, 1, 2 before the dispatch: 0 0 0, so user 0 goes first.
                " 0 2 0132   R0.0 R0.0 R0.1 R0.0",
                // 1 0 0: of the processes of user 1, process 1 is before process 3.
                " 1 1 0321   R0.0 R0.1 R0.1 R0.0",
                // 1 1/2 0
                " 2 0 3210   R0.1 R0.1 R0.1 R0.0",
                // 1 1/2 1/3
                " 3 0 3210   R0.2 R0.1 R0.1 R0.0",
                // 1 1/2 2/3: now process 3 is before process 1.
                " 4 3 2103   R0.2 R0.1 R0.1 R0.1",
                // 1 1 2/3
                " 5 0 2130   R0.3 R0.1 R0.1 R0.1",
                // Usages 1 2 3, halved: ratios 1/2 1/2 1/2
                " 6 2 1302   R0.3 R0.1 R0.2 R0.1",
                // 3/2 1/2 1/2
                " 7 1 3021   R0.3 R0.2 R0.2 R0.1",
                // 3/2 1 1/2
                " 8 0 3210   R0.4 R0.2 R0.2 R0.1",
                // 3/2 1 5/6
                " 9 0 3210   R0.5 R0.2 R0.2 R0.1",
                // 3/2 1 7/6
                "10 3 2103   R0.5 R0.2 R0.2 R0.2",
                // 3/2 3/2 7/6
                "11 0 2130   R0.6 R0.2 R0.2 R0.2",
                // Usages 3/2 3 9/2, halved: 3/4 3/4 3/4
                "12 2 1302   R0.6 R0.2 R0.3 R0.2");
        FeedbackQueueSimulator x = weighted();
        x.run(13);
        // Usages 7/4, 3/2 and 9/4, the weights 1, 2 and 3.
        Check.due("ratio of user 0", x.ratioBits(0), 0x3FE00000);
        Check.due("ratio of user 1", x.ratioBits(1), 0x3F400000);
        Check.due("ratio of user 2", x.ratioBits(2), 0x3F400000);
        Check.due("ratio of user 3", x.ratioBits(3), 0);
        TicksByHand.totals(x, 0, 11, 0, 0, 2, 4, 0, 0);
        TicksByHand.entries(x, "0 0 3", "1 0 4", "2 0 6");
    }

    private static FeedbackQueueSimulator twoLevels() {
        FeedbackQueueSimulator x = new FeedbackQueueSimulator();
        x.setLevels(2);
        Check.good(x, "level0=1,1,0;level1=2,40,1;", 2);
        x.spawn(1, 0, 30, 0, 1);
        x.spawn(0, 0, 30, 0, 1);
        return x;
    }

    private static FeedbackQueueSimulator withThird() {
        FeedbackQueueSimulator x = twoLevels();
        x.run(5);
        x.spawn(2, 0, 1, 0, 1);
        return x;
    }

    private static void fairBelow() {
        Table.follow("row", SharesByHand::twoLevels,
                // Level 0 is not fair: process 0 is first, though user 0 has the lower number.
                "0 0 1  0   R1.0 R0.0",
                "1 1 - 01   R1.0 R1.0",
                // Ratios 1 1: user 0, whose process is the second one.
                "2 1 -  0   R1.0 C1.1.1",
                "3 1 - 01   R1.0 R1.2",
                // 3 1
                "4 0 -  1   C1.1.1 R1.2");
        Table.follow("with a third one", SharesByHand::withThird,
                // Process 0 is preempted and is the first of its queue again.
                "5 2 - 01   R1.1 R1.2 F0.1",
                // 3 2
                "6 0 -  1   C1.2.1 R1.2 F0.1",
                "7 0 - 10   R1.3 R1.2 F0.1",
                // 3 4
                "8 1 -  0   R1.3 C1.3.1 F0.1");
        Table.follow("a weight of 2 for user 0", () -> {
            FeedbackQueueSimulator x = withThird();
            x.tick();
            x.setShare(0, 2);
            return x;
        },
                // 3/2 2: the preempted process is first, but user 0 has the lesser ratio.
                "6 1 -  0   R1.1 C1.3.1 F0.1",
                // The ratio is 4/2 when process 1 goes on: a current process is not chosen again.
                "7 1 - 01   R1.1 R1.4 F0.1",
                // 5/2 2
                "8 0 -  1   C1.2.1 R1.4 F0.1");
        FeedbackQueueSimulator x = withThird();
        x.run(4);
        // Process 1 at 2 is no switch, it ran at 1; nor is any tick of a process that stays current.
        TicksByHand.totals(x, 0, 6, 1, 0, 0, 3, 1, 0);
    }

    /** A usage of 1 multiplied by 11/16 each tick: from the seventh time on there is rounding each time. */
    private static void roundedUsage() {
        FeedbackQueueSimulator x = new FeedbackQueueSimulator();
        x.spawn(0, 0, 1, 0, 1);
        x.setOption(1, 1);
        x.setOption(2, 11);
        x.tick();
        Check.due("1.0f", x.ratioBits(0), 0x3F800000);
        x.tick();
        Check.due("0.6875f", x.ratioBits(0), 0x3F300000);
        x.run(5);
        // 11^6 = 1771561 = 0x1B0829, divided by 2^24: 21 digits, exact.
        Check.due("6 times", x.ratioBits(0), 0x3DD84148);
        x.tick();
        // 11^7 = 19487171 has 25 digits: half way between 9743585 and 9743586, and the even one is taken.
        Check.due("7 times", x.ratioBits(0), 0x3D94ACE2);
        x.tick();
        // 9743586 * 11 / 8 = 13397430.75, so 13397431; without the rounding before it would be 13397430.
        Check.due("8 times", x.ratioBits(0), 0x3D4C6DB7);
        Check.due("decays", x.total(4), 8);
    }

    private static void roundedRatio() {
        FeedbackQueueSimulator x = new FeedbackQueueSimulator();
        x.spawn(1, 0, 30, 0, 1);
        x.setShare(1, 3);
        int[] thirds = {0x3EAAAAAB, 0x3F2AAAAB, 0x3F800000, 0x3FAAAAAB, 0x3FD55555};
        for (int k = 0; k < thirds.length; k++) {
            x.tick();
            Check.due("thirds: " + (k + 1), x.ratioBits(1), thirds[k]);
        }
        x.setShare(1, 7);
        // 5/7 * 2^24 = 11983725.71, so 11983726 = 0xB6DB6E.
        Check.due("5/7", x.ratioBits(1), 0x3F36DB6E);
        x.setShare(1, 9);
        // 5/9 * 2^24 = 9320675.56, so 9320676 = 0x8E38E4.
        Check.due("5/9", x.ratioBits(1), 0x3F0E38E4);
    }
}
