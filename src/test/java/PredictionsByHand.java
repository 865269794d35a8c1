import java.util.List;
import java.util.function.Consumer;
import java.util.function.Function;
import java.util.function.Supplier;

/** Predictions worked out by hand from the tables of the other classes, and that none of them changes the machine. */
final class PredictionsByHand {
    private PredictionsByHand() {
    }

    static void check() {
        Check.about("predictEnd");
        ends();
        Check.about("starvation");
        starvation();
        Check.about("bestBoost");
        boosts();
        Check.about("unfairnessBits");
        unfairness();
        Check.about("gain");
        gains();
        Check.about("switchesWith");
        switches();
        Check.about("the machine behind a prediction");
        eachAlone();
        Check.about("");
    }

    /** The ends are 26, 15 and 28: see the table of three lives. */
    private static void ends() {
        int[] end = {26, 15, 28};
        for (int clock = 0; clock < 30; clock++) {
            FeedbackQueueSimulator x = TicksByHand.threeProcesses();
            if (clock > 0) {
                x.run(clock);
            }
            for (int p = 0; p < 3; p++) {
                int left = end[p] - clock;
                Check.due("process " + p + " at " + clock, x.predictEnd(p, 400), end[p]);
                Check.due("process " + p + " at " + clock, x.predictEnd(p, left > 0 ? left : 1), end[p]);
                if (left > 1) {
                    Check.due("process " + p + " at " + clock, x.predictEnd(p, left - 1), -1);
                }
            }
            Check.due("clock", x.clock(), clock);
        }
        FeedbackQueueSimulator x = TicksByHand.threeProcesses();
        x.run(14);
        x.kill(1);
        Check.due("killed", x.predictEnd(1, 400), -1);
        // Process 2 is not preempted at 14: it has 13 to 16, process 0 has 17 to 20, process 2 has 21 to 23 and goes to
        // level 2 with a budget of 8, process 0 is through at 24, and process 2 has 25 and 26.
        Check.due("process 0 without process 1", x.predictEnd(0, 400), 25);
        Check.due("process 2 without process 1", x.predictEnd(2, 400), 27);
    }

    /** The waits of the three lives: 0 at 2-4, 7-9, 15-18, 23-24; 1 at 0-1, 7-8; 2 at 0-2, 5-6, 9-11, 14, 19-22, 25. */
    private static void starvation() {
        int[][] due = {
            // From clock, ticks, longest, process.
            {0, 1, 1, 1}, {0, 2, 2, 1}, {0, 3, 3, 2}, {0, 4, 3, 2}, {0, 5, 3, 0}, {0, 18, 3, 0}, {0, 19, 4, 0}, {0, 200, 4, 0},
            {1, 1, 1, 1}, {1, 2, 2, 2}, {1, 3, 2, 0}, {1, 4, 3, 0}, {3, 2, 2, 0}, {3, 4, 2, 0}, {3, 7, 3, 0},
            {10, 2, 2, 2}, {10, 6, 2, 2}, {10, 7, 2, 0}, {10, 8, 3, 0}, {12, 1, 0, -1}, {12, 2, 0, -1}, {12, 3, 1, 2},
            {16, 3, 3, 0}, {16, 6, 3, 0}, {16, 7, 4, 2}, {19, 200, 4, 2}, {21, 200, 2, 0}, {24, 1, 1, 0}, {24, 200, 1, 0},
            {25, 200, 1, 2}, {26, 200, 0, -1}, {29, 1, 0, -1}};
        for (int[] row : due) {
            FeedbackQueueSimulator x = TicksByHand.threeProcesses();
            if (row[0] > 0) {
                x.run(row[0]);
            }
            Check.due("number at " + row[0] + " in " + row[1], x.starvation(row[1], 0), row[2]);
            Check.due("process at " + row[0] + " in " + row[1], x.starvation(row[1], 1), row[3]);
        }
    }

    /**
     * Two processes that compute, quanta of 2 and 5, allotments of 2 and 40. Without a boost: 0 at 0-1, 1 at 2-3,
     * 0 at 4-8, 1 at 9-13, so the waits are 2, 2, 5, 5. With a boost at each tick process 0 never leaves. With one
     * at each second tick they change places behind each 2 ticks.
     */
    private static void boosts() {
        int[][] due = {{1, 0}, {2, 0}, {3, 0}, {4, 0}, {5, 0}, {6, 0}, {7, 2}, {8, 2}, {9, 2}, {50, 2}, {100, 2}};
        for (int[] row : due) {
            FeedbackQueueSimulator x = new FeedbackQueueSimulator();
            x.setLevels(2);
            Check.good(x, "level0=2,2,0;level1=5,40,0;boost=13;", 3);
            x.spawn(0, 0, 30, 0, 20);
            x.spawn(0, 0, 30, 0, 20);
            Check.due(row[0] + " ticks", x.bestBoost(row[0]), row[1]);
            Check.due("the period stays", x.setOption(0, 0), 13);
        }
        // With quanta and allotments of 1 at level 0 a boost at each tick makes them take turns: waits of 1.
        FeedbackQueueSimulator x = new FeedbackQueueSimulator();
        x.setLevels(2);
        Check.good(x, "level0=1,1,0;level1=5,40,0;", 2);
        x.spawn(0, 0, 30, 0, 20);
        x.spawn(0, 0, 30, 0, 20);
        Check.due("3 ticks: 0, 1, 0 without a boost too", x.bestBoost(3), 0);
        // Without a boost process 1 waits at 2 and 3.
        Check.due("4 ticks", x.bestBoost(4), 1);
        Check.due("100 ticks", x.bestBoost(100), 1);
        // At clock 1 process 0 is at level 1 and process 1 at level 0.
        x.tick();
        Check.due("2 ticks: 1, 0", x.bestBoost(2), 0);
        Check.due("3 ticks: 1, 0, 0 without a boost", x.bestBoost(3), 1);
        boostOfFairLevel();
    }

    /** Process 0 is at level 1, process 1 goes back to level 0 behind each tick; user 1 has a ratio of 1/9. */
    private static void boostOfFairLevel() {
        FeedbackQueueSimulator x = new FeedbackQueueSimulator();
        x.setLevels(2);
        x.setLevel(0, 1, 1, 1);
        x.setShare(1, 9);
        x.spawn(1, 0, 30, 0, 1);
        x.tick();
        x.setLevel(0, 1, 40, 1);
        x.spawn(0, 0, 30, 0, 1);
        // Without a boost process 0 waits for all ticks; boosted to level 0, it has its turn at 2, when user 0 has 1.
        Check.due("1 tick", x.bestBoost(1), 0);
        Check.due("2 ticks: 1, 1 or 1, 0", x.bestBoost(2), 1);
        Check.due("without a boost", x.starvation(2, 0), 2);
        x.setOption(0, 1);
        Check.due("with a boost", x.starvation(2, 0), 1);
    }

    private static void unfairness() {
        // Weights of 1, 2, 3 and ticks of 1, 2, 3 of 6: parts and targets are the same divisions.
        FeedbackQueueSimulator x = SharesByHand.weighted();
        Check.due("6 ticks", x.unfairnessBits(6), 0);
        Check.due("12 ticks", x.unfairnessBits(12), 0);
        // User 0 alone: 1 - 1/6, where 1/6 is 11184811 / 2^26; (2^26 - 11184811) / 4 = 13981013.25, so 13981013.
        Check.due("1 tick", x.unfairnessBits(1), 0x3F555555);
        // Users 0 and 1, a tick each: 1/2 - 1/6 = (2^25 - 11184811) / 2^26 = 22369621 / 2^26, half way: 11184810 / 2^25.
        // The target of user 2 is 1/2, and its part is 0: that is more.
        Check.due("2 ticks", x.unfairnessBits(2), 0x3F000000);
        // Parts of 1/3 each: |1/3 - 1/6| = 11184811 / 2^26, |1/3 - 1/3| = 0, |1/3 - 1/2| = 5592405 / 2^25.
        Check.due("3 ticks", x.unfairnessBits(3), 0x3E2AAAAB);
        // In the three lives users 0, 1 and 2 have 11, 3 and 14 of 28 ticks, and targets of 1/3.
        FeedbackQueueSimulator y = TicksByHand.threeProcesses();
        // 3/28 is 14380471 / 2^27, 1/3 is 44739244 / 2^27; the difference of 30358773 is half way: 15179386 / 2^26.
        Check.due("28 ticks", y.unfairnessBits(28), 0x3E679E7A);
        Check.due("idle ticks do not count", y.unfairnessBits(200), 0x3E679E7A);
        y.run(15);
        // User 1 has no process left: targets of 1/2, and user 2 has the tick at 15.
        Check.due("process 1 is finished", y.unfairnessBits(1), 0x3F000000);
        // 2 at 15 to 18, 0 at 19 to 22: parts of 1/2.
        Check.due("8 ticks", y.unfairnessBits(8), 0);
        y.setShare(0, 3);
        // Targets of 3/4 and 1/4.
        Check.due("8 ticks and a weight of 3", y.unfairnessBits(8), 0x3E800000);
        y.run(13);
        Check.due("no process is left", y.unfairnessBits(200), 0);
    }

    /** See the tables of both accountings: the ticks of process 0 until clock n, and those of process 1. */
    private static void gains() {
        int[] strict = {0, 1, 4, 7, 12, 13, 18, 19};
        int[] lenient = {0, 1, 4, 7, 8, 9, 10, 11, 12, 13, 14, 15, 16, 17, 18, 19};
        for (int accounting = 0; accounting <= 1; accounting++) {
            FeedbackQueueSimulator x = GamingByHand.gamer(accounting);
            for (int ticks = 1; ticks <= 20; ticks++) {
                int due = before(lenient, ticks) - before(strict, ticks);
                Check.due("process 0, " + ticks + " ticks", x.gain(0, ticks), due);
                Check.due("process 1, " + ticks + " ticks", x.gain(1, ticks), -due);
            }
            Check.due("the accounting stays", x.setOption(5, 1), accounting);
        }
        // At clock 5 of the strict machine the budget of 3 is there, whatever comes: demoted at 7. Process 0 runs at
        // 7, 12, 13, 18 to 23; then, strict, it goes to level 2 behind process 1, and lenient, it stays at level 1.
        FeedbackQueueSimulator x = GamingByHand.gamer(1);
        x.run(5);
        Check.due("until 24", x.gain(0, 19), 0);
        Check.due("until 25", x.gain(0, 20), 1);
        Check.due("until 25, process 1", x.gain(1, 20), -1);
        // At clock 5 of the lenient machine the budget is 0: strict from now on, it is demoted at 10.
        FeedbackQueueSimulator y = GamingByHand.gamer(0);
        y.run(5);
        // Lenient: 1 1 0 0 0 0 0 ..; strict: 1 1 0 0 0 0 1 .., late at 9 with a budget of 3.
        Check.due("until 11", y.gain(0, 6), 0);
        Check.due("until 12", y.gain(0, 7), 1);
        Check.due("until 15", y.gain(0, 10), 4);
    }

    private static int before(int[] clocks, int end) {
        int count = 0;
        for (int clock : clocks) {
            count += clock < end ? 1 : 0;
        }
        return count;
    }

    /** The switches of the strict gamer are at 0, 2, 4, 5, 7, 8, 12, 14, 18 and 24. */
    private static void switches() {
        FeedbackQueueSimulator x = GamingByHand.gamer(1);
        // A quantum of 2 at level 1: 0, 2, 4, 5, 7, 8, 10, 12, 14, 16, 18, 19.
        Check.due("2 at level 1", x.switchesWith(1, 2, 20), 12 - 9);
        Check.due("2 at level 1, until 11", x.switchesWith(1, 2, 11), 7 - 6);
        Check.due("2 at level 1, until 10", x.switchesWith(1, 2, 10), 0);
        // A quantum of 20 at level 1: process 1 has 8 to 15; 0, 2, 4, 5, 7, 8, 16.
        Check.due("20 at level 1", x.switchesWith(1, 20, 20), 7 - 9);
        // A quantum of 4 at level 0: 0, 3, 7, 8, 12, 14, 18.
        Check.due("4 at level 0", x.switchesWith(0, 4, 20), 7 - 9);
        Check.due("4 at level 0, until 8", x.switchesWith(0, 4, 8), 3 - 5);
        // Level 2 has nobody until 24.
        Check.due("1 at level 2", x.switchesWith(2, 1, 24), 0);
        // At 24 process 1 has the processor at level 2, with 7 ticks more of its quantum: then they take turns.
        x.run(25);
        Check.due("the remaining quantum stays", x.switchesWith(2, 1, 7), 0);
        // At 32 process 0 is dispatched: with a quantum of 8 it yields at 34, and process 1 has 35 to 42.
        // With a quantum of 1: 32 0, 33 1, 34 0, 35 1, 36 0, 37 1 ..
        Check.due("one switch each", x.switchesWith(2, 1, 8), 0);
        Check.due("two to one", x.switchesWith(2, 1, 9), 1);
        Check.due("four to two", x.switchesWith(2, 1, 11), 2);
        Check.due("six to two", x.switchesWith(2, 1, 13), 4);
        Check.due("the quantum stays", x.setLevel(2, 8, 16, 0), 8);
    }

    /** Each prediction for itself, so that none can hide what another did. */
    private static void eachAlone() {
        List<Consumer<FeedbackQueueSimulator>> predictions = List.of(
                x -> x.predictEnd(0, 400), x -> x.starvation(200, 0), x -> x.starvation(1, 1), x -> x.bestBoost(100),
                x -> x.unfairnessBits(200), x -> x.gain(1, 200), x -> x.switchesWith(1, 20, 200));
        for (Supplier<FeedbackQueueSimulator> state : States.WITH_PROCESSES) {
            for (Consumer<FeedbackQueueSimulator> prediction : predictions) {
                for (Function<FeedbackQueueSimulator, String> eye : Eyes.OF_MACHINE) {
                    FeedbackQueueSimulator x = state.get();
                    prediction.accept(x);
                    Check.due("seen", eye.apply(x), Refusal.untouched(state, eye));
                }
                FeedbackQueueSimulator x = state.get();
                prediction.accept(x);
                Check.due("the text", Eyes.OF_TEXT.apply(x), Refusal.untouched(state, Eyes.OF_TEXT));
            }
        }
    }
}
