import java.util.List;
import java.util.function.Supplier;

/** Objects in states that the boundary cases begin from. */
final class States {
    static final Supplier<FeedbackQueueSimulator> FRESH = FeedbackQueueSimulator::new;
    static final Supplier<FeedbackQueueSimulator> BUSY = States::busy;
    static final Supplier<FeedbackQueueSimulator> FULL = States::full;
    static final Supplier<FeedbackQueueSimulator> OVER = States::over;
    static final List<Supplier<FeedbackQueueSimulator>> ALL = List.of(FRESH, BUSY, FULL, OVER);
    static final List<Supplier<FeedbackQueueSimulator>> WITH_PROCESSES = List.of(BUSY, FULL, OVER);

    private States() {
    }

    /** Processes 0 to 4 in the states 0 to 4, all settings changed, two pins, a snapshot, a text and an error. */
    private static FeedbackQueueSimulator busy() {
        FeedbackQueueSimulator x = new FeedbackQueueSimulator();
        x.setLevels(4);
        Check.put(x, "boost=37;decay=11;factor=9;late=2;limit=2;level1=3,5,1;");
        x.execute();
        x.setLevel(3, 5, 7, 1);
        x.setShare(1, 3);
        x.setShare(2, 7);
        x.spawn(1, 1, 30, 0, 4);
        x.spawn(2, 1, 3, -1, 20);
        x.spawn(0, 1, 2, 30, 20);
        x.spawn(3, 0, 1, 0, 1);
        x.spawn(1, 1, 7, 0, 2);
        x.run(8);
        x.pin(0, 2);
        x.save();
        x.pin(2, 4);
        x.kill(4);
        x.run(8);
        Check.put(x, "late=10;");
        Refusal.thrown(x, FeedbackQueueSimulator::execute);
        Check.put(x, "limit=7;lat");
        return x;
    }

    /** 10 processes, of which none ended, 3 pins in use and 60 characters, which are a right text. */
    private static FeedbackQueueSimulator full() {
        FeedbackQueueSimulator x = new FeedbackQueueSimulator();
        for (int p = 0; p < 10; p++) {
            x.spawn(p % 4, p % 2, 1 + 3 * p, p - 1, 20);
        }
        for (int pin = 0; pin < 3; pin++) {
            x.pin(pin, 2 * pin + 1);
        }
        x.run(50);
        Check.put(x, "late=5;late=4;late=3;late=2;late=1;late=0;limit=7;boost=123;");
        return x;
    }

    /** Two processes are finished, one is killed, and none is left; nothing was saved. */
    private static FeedbackQueueSimulator over() {
        FeedbackQueueSimulator x = new FeedbackQueueSimulator();
        x.spawn(0, 1, 5, 0, 2);
        x.spawn(1, 0, 2, 3, 3);
        x.spawn(2, 1, 9, 0, 9);
        x.run(30);
        x.kill(2);
        x.run(10);
        return x;
    }

    /** The objects are what their descriptions say; else the cases would begin from the wrong place. */
    static void check() {
        FeedbackQueueSimulator busy = busy();
        for (int p = 0; p < 5; p++) {
            Check.due("busy: state of " + p, busy.state(p), p);
        }
        Check.due("busy: characters", busy.append(0), 11);
        Check.due("busy: error", busy.errorPosition(), 5);
        FeedbackQueueSimulator full = full();
        Check.due("full: created", full.total(5), 10);
        Check.due("full: ended", full.total(6) + full.total(7), 0);
        Check.due("full: characters", full.append(0), 60);
        Check.due("full: commands", full.execute(), 8);
        FeedbackQueueSimulator over = over();
        Check.due("over: finished", over.total(6), 2);
        Check.due("over: killed", over.total(7), 1);
        Check.due("over: created", over.total(5), 3);
    }
}
