/** Killed processes, pins and snapshots in the course of ticks, worked out by hand. */
final class KillsByHand {
    private KillsByHand() {
    }

    static void check() {
        Check.about("kills");
        kills();
        Check.about("pins");
        pins();
        Check.about("snapshots");
        snapshots();
        Check.about("");
    }

    private static FeedbackQueueSimulator currentKilled() {
        FeedbackQueueSimulator x = new FeedbackQueueSimulator();
        Check.good(x, "spawn00=c30;spawn10=c2i4c2;spawn20=c30;", 3);
        x.tick();
        Check.due("it was current", x.kill(0), 1);
        return x;
    }

    private static FeedbackQueueSimulator waitingKilled() {
        FeedbackQueueSimulator x = currentKilled();
        x.run(3);
        Check.due("it was waiting", x.kill(1), 2);
        return x;
    }

    private static FeedbackQueueSimulator readyKilled() {
        FeedbackQueueSimulator x = waitingKilled();
        x.tick();
        x.spawn(3, 1, 30, 0, 1);
        x.spawn(0, 0, 2, 0, 1);
        Check.due("it was ready", x.kill(2), 0);
        return x;
    }

    private static void kills() {
        Table.follow("current", KillsByHand::currentKilled,
                "1 1 2 - -   K0.1 C0.1.1 R0.0",
                // The operation of 4 would end at 2 + 1 + 4 = 7.
                "2 1 2 - -   K0.1 W0.2   R0.0",
                "3 2 - - -   K0.1 W0.2   C0.1.1");
        Table.follow("waiting", KillsByHand::waitingKilled,
                "4 2 2 - -   K0.1 K0.2   R0.2",
                "5 2 - - -   K0.1 K0.2   C0.3.1",
                "6 2 - 2 -   K0.1 K0.2   R1.0",
                // It is not woken at 7.
                "7 2 - - -   K0.1 K0.2   C1.1.3");
        Table.follow("ready", KillsByHand::readyKilled,
                "5 3 4  - -   K0.1 K0.2   K0.2 C0.1.1 R0.0",
                "6 3 43 - -   K0.1 K0.2   K0.2 R0.2   R0.0",
                "7 4 3  - -   K0.1 K0.2   K0.2 R0.2   C0.1.1",
                "8 4 3  - -   K0.1 K0.2   K0.2 R0.2   F0.2");
        FeedbackQueueSimulator x = readyKilled();
        x.setOption(0, 9);
        x.run(5);
        // A boost at 9 reaches no process that has ended.
        TicksByHand.properties(x, 0, 0, 0, 0, 1, 0, 1, 0, 0, 1, 0, 0, 0);
        TicksByHand.properties(x, 1, 1, 0, 0, 2, 0, 2, 1, 1, 4, 1, 0, 0);
        TicksByHand.properties(x, 2, 2, 0, 0, 2, 0, 2, 3, 3, 5, 0, 0, 0);
        TicksByHand.properties(x, 3, 3, 1, 0, 1, 1, 3, 2, 5, -1, 0, 0, 0);
        TicksByHand.properties(x, 4, 0, 0, 0, 2, 0, 2, 2, 7, 9, 0, 0, 0);
        // Switches at 0, 1, 3, 5, 7 and 9.
        TicksByHand.totals(x, 0, 6, 0, 1, 0, 5, 1, 3);
        // The mean is over process 4 alone: created at 5, run from 7 on, ended at 9.
        Check.due("wait", x.meanBits(0), 0x4000000000000000L);
        Check.due("turnaround", x.meanBits(1), 0x4010000000000000L);
        Check.due("response", x.meanBits(2), 0x4000000000000000L);
    }

    /** Two processes that go to level 1 before they wait; the pin of one is emptied while it waits. */
    private static FeedbackQueueSimulator pinned() {
        FeedbackQueueSimulator x = new FeedbackQueueSimulator();
        Check.good(x, "level0=5,5,0;spawn01=(c6i3)3;spawn11=(c6i3)3;", 3);
        Check.due("pins", x.pin(2, 1), 1);
        Check.due("pins", x.pin(0, 0), 2);
        return x;
    }

    private static void pins() {
        Table.follow("both held", KillsByHand::pinned,
                "0  0 1 - -   C0.1.4 R0.0",
                "1  0 1 - -   C0.2.3 R0.0",
                "2  0 1 - -   C0.3.2 R0.0",
                "3  0 1 - -   C0.4.1 R0.0",
                "4  0 1 0 -   R1.0   R0.0",
                "5  1 - 0 -   R1.0   C0.1.4",
                "6  1 - 0 -   R1.0   C0.2.3",
                "7  1 - 0 -   R1.0   C0.3.2",
                "8  1 - 0 -   R1.0   C0.4.1",
                "9  1 - 01 -  R1.0   R1.0",
                // The sixth tick of each, at level 1: the operations end at 14 and 15.
                "10 0 - 1 -   W1.1   R1.0",
                "11 1 - - -   W1.1   W1.1",
                "12 - - - -   W1.1   W1.1",
                "13 - - - -   W1.1   W1.1",
                "14 0 - - -   C0.1.4 W1.1",
                "15 0 1 - -   C0.2.3 R0.0");
        Table.follow("one held", () -> {
            FeedbackQueueSimulator x = pinned();
            x.run(12);
            Check.due("held", x.unpin(2), 1);
            return x;
        },
                "12 - - - -   W1.1   W1.1",
                "13 - - - -   W1.1   W1.1",
                "14 0 - - -   C0.1.4 W1.1",
                // Not held any more: it is woken at level 1, with its budget of 1.
                "15 0 - 1 -   C0.2.3 R1.1");
        FeedbackQueueSimulator x = pinned();
        x.run(12);
        Check.due("killed in an operation", x.kill(1), 2);
        x.run(20);
        Check.due("the pin goes on holding it", x.unpin(2), 1);
        Check.due("it is not woken", x.state(1), 4);
        Check.due("its level", x.property(1, 2), 1);
    }

    /** The rows of the three lives from 10 on, behind another future that was given up. */
    private static void snapshots() {
        Table.follow("restored", () -> {
            FeedbackQueueSimulator x = TicksByHand.threeProcesses();
            x.run(10);
            Check.due("saved at", x.save(), 10);
            x.setOption(0, 1);
            x.setShare(0, 9);
            x.setLevel(1, 1, 1, 1);
            x.kill(0);
            x.spawn(3, 0, 5, 0, 1);
            x.run(17);
            Check.due("restored at", x.restore(), 10);
            return x;
        },
                "10 0   - 2  -   C1.1.3 W0.2   R1.0",
                "11 0   - 2  -   W1.2   W0.2   R1.0",
                "12 2   - 2  -   W1.2   W0.2   R1.1",
                "13 2   - -  -   W1.2   W0.2   C1.2.3",
                "14 1   - 2  -   W1.2   F0.3   R1.2",
                "15 2   - 0  -   R1.2   F0.3   C1.3.3");
        FeedbackQueueSimulator x = TicksByHand.threeProcesses();
        x.run(13);
        x.save();
        x.run(16);
        Check.due("the snapshot is kept", x.restore(), 13);
        x.run(3);
        Check.due("the snapshot is kept", x.restore(), 13);
        // The process that ran most recently is part of the machine: process 2 at 13 is no switch.
        Check.due("switches", x.total(1), 8);
        x.tick();
        Check.due("switches", x.total(1), 8);
        int[] past = {2, 2, 0, 0, 1, 2, 2, 0, 0, 2, 2, 1, 0, 0};
        for (int back = 0; back < past.length; back++) {
            Check.due("history " + back, x.history(back), past[back]);
        }
        Check.failsIndex("no tick before the first", () -> x.history(14));
        x.run(15);
        TicksByHand.totals(x, 1, 14, 1, 0, 0, 3, 3, 0);
        TicksByHand.entries(x, "0 0 4", "1 0 3", "2 0 4", "0 1 7", "2 1 8", "2 2 2");
    }
}
