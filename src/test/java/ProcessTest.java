/** Promises 9 to 12. */
public final class ProcessTest {
    public static void main(String[] args) {
        spawning();
        tenProcesses();
        killing();
        pinning();
        pinnedProcessesWake();
        Check.end();
    }

    private static void spawning() {
        FeedbackQueueSimulator x = new FeedbackQueueSimulator();
        Check.due("9: first", x.spawn(3, 1, 30, 30, 20), 0);
        Check.due("9: second", x.spawn(0, 0, 1, -1, 1), 1);
        Check.due("9: third", x.spawn(0, 0, 1, 0, 2), 2);
        for (int p = 0; p < 3; p++) {
            Check.due("9: ready", x.state(p), 0);
            Check.due("9: in the queue", x.queued(0, p), p);
            int[] fresh = {p == 0 ? 3 : 0, p == 0 ? 1 : 0, 0, 0, 0, 0, 0, -1, -1, 0, 0, 0};
            for (int what = 0; what < 12; what++) {
                Check.due("9: property " + what, x.property(p, what), fresh[what]);
            }
        }
        Check.due("9: created", x.total(5), 3);
        Check.failsIndex("9: user 4", () -> x.spawn(4, 0, 1, 0, 1));
        Check.failsIndex("9: user -1", () -> x.spawn(-1, 0, 1, 0, 1));
        Check.failsIndex("9: index before argument", () -> x.spawn(4, 2, 0, -2, 0));
        Check.failsArgument("9: kind 2", () -> x.spawn(0, 2, 1, 0, 1));
        Check.failsArgument("9: kind -1", () -> x.spawn(0, -1, 1, 0, 1));
        Check.failsArgument("9: cpu 0", () -> x.spawn(0, 0, 0, 0, 1));
        Check.failsArgument("9: cpu 31", () -> x.spawn(0, 0, 31, 0, 1));
        Check.failsArgument("9: io -2", () -> x.spawn(0, 0, 1, -2, 1));
        Check.failsArgument("9: io 31", () -> x.spawn(0, 0, 1, 31, 1));
        Check.failsArgument("9: rounds 0", () -> x.spawn(0, 0, 1, 0, 0));
        Check.failsArgument("9: rounds 21", () -> x.spawn(0, 0, 1, 0, 21));
        Check.failsArgument("9: rounds far below", () -> x.spawn(0, 0, 1, 0, Integer.MIN_VALUE));
        // Process 2 has two units of one tick without a give-up, process 1 one unit.
        x.kill(0);
        Check.due("9: process 1", x.tick(), 1);
        Check.due("9: its last give-up is ignored", x.state(1), 3);
        x.tick();
        Check.due("9: process 2 goes on", x.state(2), 1);
        Check.due("9: process 2", x.tick(), 2);
        Check.due("9: process 2 ends", x.property(2, 8), 3);
        Check.due("9: without a give-up", x.property(2, 9), 0);
    }

    private static void tenProcesses() {
        FeedbackQueueSimulator x = new FeedbackQueueSimulator();
        for (int p = 0; p < 10; p++) {
            Check.due("9: number", x.spawn(p % 4, p % 2, 1, 0, 1), p);
        }
        Check.failsState("9: 11", () -> x.spawn(0, 0, 1, 0, 1));
        Check.failsArgument("9: argument before state", () -> x.spawn(0, 0, 0, 0, 1));
        Check.failsIndex("9: index before state", () -> x.spawn(4, 0, 1, 0, 1));
        x.run(20);
        Check.due("9: finished", x.total(6), 10);
        Check.failsState("9: finished ones count", () -> x.spawn(0, 0, 1, 0, 1));
    }

    private static void killing() {
        FeedbackQueueSimulator x = new FeedbackQueueSimulator();
        Check.failsIndex("10: none", () -> x.kill(0));
        x.spawn(0, 1, 1, 3, 2);
        x.spawn(0, 0, 2, 0, 2);
        x.spawn(0, 0, 1, 0, 1);
        x.spawn(0, 0, 1, 0, 1);
        x.run(2);
        Check.due("10: waiting", x.kill(0), 2);
        Check.due("10: current", x.kill(1), 1);
        Check.due("10: remaining quantum", x.property(1, 4), 0);
        Check.due("10: ready", x.kill(2), 0);
        Check.due("10: the queue behind it", x.queueLength(0), 1);
        Check.due("10: the queue behind it", x.queued(0, 0), 3);
        for (int p = 0; p < 3; p++) {
            Check.due("10: state", x.state(p), 4);
            Check.due("10: end", x.property(p, 8), 2);
        }
        Check.due("10: killed", x.total(7), 3);
        Check.due("10: the processor is free", x.tick(), 3);
        Check.due("10: idle although its operation would have ended", x.run(5), 5);
        Check.failsState("10: killed", () -> x.kill(0));
        Check.failsState("10: finished", () -> x.kill(3));
        Check.failsIndex("10: no such process", () -> x.kill(4));
        Check.failsIndex("10: -1", () -> x.kill(-1));
        Check.due("10: finished ones", x.total(6), 1);
    }

    private static void pinning() {
        FeedbackQueueSimulator x = new FeedbackQueueSimulator();
        for (int p = 0; p < 5; p++) {
            x.spawn(0, p == 1 ? 0 : 1, 1, 0, 1);
        }
        x.kill(0);
        Check.due("11: a killed process", x.pin(2, 0), 1);
        Check.due("11: second", x.pin(0, 2), 2);
        Check.failsIndex("11: pin 3", () -> x.pin(3, 3));
        Check.failsIndex("11: pin -1", () -> x.pin(-1, 3));
        Check.failsIndex("11: process 5", () -> x.pin(1, 5));
        Check.failsIndex("11: process -1", () -> x.pin(1, -1));
        Check.failsArgument("11: batch", () -> x.pin(1, 1));
        Check.failsArgument("11: argument before state", () -> x.pin(0, 1));
        Check.failsState("11: the pin is taken", () -> x.pin(0, 3));
        Check.failsState("11: the process is held", () -> x.pin(1, 2));
        Check.due("11: third", x.pin(1, 3), 3);
        Check.failsIndex("12: pin 3", () -> x.unpin(3));
        Check.failsIndex("12: pin -1", () -> x.unpin(-1));
        x.kill(3);
        Check.due("10: a pin goes on holding it", x.unpin(1), 3);
        Check.failsState("12: empty", () -> x.unpin(1));
        Check.due("12: held", x.unpin(2), 0);
        Check.due("12: held", x.unpin(0), 2);
        Check.due("11: again", x.pin(0, 0), 1);
    }

    private static void pinnedProcessesWake() {
        for (int pinned = 0; pinned < 2; pinned++) {
            FeedbackQueueSimulator x = new FeedbackQueueSimulator();
            x.spawn(0, 1, 5, 2, 3);
            if (pinned == 1) {
                x.pin(1, 0);
            }
            x.run(5);
            Check.due("11: demoted all the same", x.property(0, 2), 1);
            Check.due("11: budget", x.property(0, 3), 1);
            Check.due("11: idle", x.run(2), 2);
            x.tick();
            Check.due("11: level on waking, pins " + pinned, x.property(0, 2), 1 - pinned);
            Check.due("11: budget on waking, pins " + pinned, x.property(0, 3), pinned == 1 ? 1 : 2);
        }
    }
}
