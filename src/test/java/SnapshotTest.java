/** Promises 35 and 36. */
public final class SnapshotTest {
    public static void main(String[] args) {
        everythingComesBack();
        levelsAndProcesses();
        bufferStays();
        Check.end();
    }

    private static void everythingComesBack() {
        FeedbackQueueSimulator x = new FeedbackQueueSimulator();
        Check.failsState("36: nothing saved", x::restore);
        Check.good(x, "boost=30;decay=9;level1=3,5,1;", 3);
        Check.good(x, "spawn01=(c3i4)9;spawn10=(c9y)9;", 2);
        x.spawn(2, 0, 4, 1, 9);
        x.pin(1, 0);
        x.run(40);
        Check.due("35: clock", x.save(), 40);
        String saved = Check.look(x);
        x.setLevel(1, 20, 40, 0);
        x.setShare(0, 9);
        x.setOption(2, 1);
        x.setOption(0, 2);
        x.unpin(1);
        x.kill(1);
        x.run(150);
        x.spawn(3, 1, 1, 1, 1);
        Check.due("36: clock", x.restore(), 40);
        Check.due("36: all as it was", Check.look(x), saved);
        Check.due("36: the pin too", x.unpin(1), 0);
        Check.due("36: the quantum too", x.setLevel(1, 5, 5, 0), 3);
        Check.due("36: the snapshot is kept", x.restore(), 40);
        Check.due("36: the quantum as it was", x.setLevel(1, 5, 5, 0), 3);
        Check.due("36: process 3 is new again", x.spawn(1, 0, 7, 0, 1), 3);
        Check.due("36: its user", x.property(3, 0), 1);
        x.run(10);
        Check.due("35: replaces the earlier one", x.save(), 50);
        x.run(10);
        Check.due("36: the later one", x.restore(), 50);
        Check.due("36: with process 3", x.total(5), 4);
    }

    private static void levelsAndProcesses() {
        FeedbackQueueSimulator x = new FeedbackQueueSimulator();
        x.setLevels(4);
        x.save();
        x.setLevels(2);
        x.spawn(0, 0, 30, 0, 1);
        x.run(9);
        x.restore();
        Check.failsIndex("36: no process", () -> x.state(0));
        Check.failsIndex("36: no tick", () -> x.history(0));
        Check.due("36: without a process levels can be set", x.setLevels(5), 4);
        Check.due("36: number 0 again", x.spawn(2, 1, 2, 0, 2), 0);
        Check.due("36: the new program", x.predictEnd(0, 10), 4);
        Check.due("36: a first switch", x.tick(), 0);
        Check.due("36: a first switch", x.total(1), 1);
        Check.due("36: the table began anew", x.usageEntry(0, 0), 2);
        Check.due("36: the table began anew", x.usageEntry(0, 2), 1);
    }

    private static void bufferStays() {
        FeedbackQueueSimulator x = new FeedbackQueueSimulator();
        Check.put(x, "late=2");
        x.save();
        Check.put(x, ";");
        x.restore();
        Check.due("36: the buffer is not restored", x.append(0), 7);
        Check.due("36: its text", x.execute(), 1);
        Check.due("36: executed", x.setOption(3, 1), 2);
        x.restore();
        Check.due("36: the buffer is empty", x.append(0), 0);
        Check.due("36: the option is restored", x.setOption(3, 1), 1);
    }
}
