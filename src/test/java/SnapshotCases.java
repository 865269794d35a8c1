import java.util.function.Function;
import java.util.function.Supplier;

/** Promises 35 and 36. */
final class SnapshotCases {
    private SnapshotCases() {
    }

    static void tell(Sentences s) {
        s.plain(35, "Snapshots.");
        s.test(35, "Saves the machine, which is everything except the buffer and the error position, replacing an earlier"
                + " snapshot.", SnapshotCases::everything);
        s.test(35, "Returns the clock.", () -> {
            FeedbackQueueSimulator x = new FeedbackQueueSimulator();
            Check.due("no tick yet", x.save(), 0);
            x.run(200);
            x.tick();
            Check.due("behind 201 ticks", x.save(), 201);
        });
        s.test(36, "Restores the snapshot, which is kept.", () -> {
            FeedbackQueueSimulator x = new FeedbackQueueSimulator();
            x.save();
            for (int k = 0; k < 3; k++) {
                Check.due("number 0 each time", x.spawn(k, 0, 1, 0, 1), 0);
                Check.due("its user", x.property(0, 0), k);
                x.run(5);
                Check.due("clock", x.restore(), 0);
                Refusal.check(Refusal.INDEX, SnapshotCases::backToNothing, y -> y.state(0));
            }
        });
        s.test(36, "Returns the clock.", () -> {
            FeedbackQueueSimulator x = new FeedbackQueueSimulator();
            x.run(200);
            x.save();
            x.run(3);
            Check.due("the saved one", x.restore(), 200);
            Check.due("which is the present one now", x.clock(), 200);
        });
        s.test(36, "Throws IllegalStateException if nothing was saved", () -> {
            Refusal.check(Refusal.STATE, States.FRESH, FeedbackQueueSimulator::restore);
            Refusal.check(Refusal.STATE, States.FULL, FeedbackQueueSimulator::restore);
            Refusal.check(Refusal.STATE, States.OVER, FeedbackQueueSimulator::restore);
            FeedbackQueueSimulator x = new FeedbackQueueSimulator();
            x.save();
            Check.due("an empty machine was saved", x.restore(), 0);
        });
    }

    private static void everything() {
        for (Function<FeedbackQueueSimulator, String> eye : Eyes.OF_MACHINE) {
            comesBack(SnapshotCases::notRunYet, eye);
        }
        for (Supplier<FeedbackQueueSimulator> state : States.ALL) {
            for (Function<FeedbackQueueSimulator, String> eye : Eyes.OF_MACHINE) {
                comesBack(state, eye);
            }
            FeedbackQueueSimulator x = state.get();
            x.save();
            Check.due("the text stays", textBehind(x), textBehind(state.get()));
            FeedbackQueueSimulator y = state.get();
            y.save();
            int characters = y.append(0);
            int error = y.errorPosition();
            y.restore();
            Check.due("the buffer stays", y.append(0), characters);
            Check.due("the error position stays", y.errorPosition(), error);
        }
        bufferAndErrorAreNotSaved();
    }

    private static void comesBack(Supplier<FeedbackQueueSimulator> state, Function<FeedbackQueueSimulator, String> eye) {
        // The state with the snapshot of itself: what the eye for snapshots must find.
        FeedbackQueueSimulator like = state.get();
        like.save();
        String due = eye.apply(like);
        FeedbackQueueSimulator ran = state.get();
        ran.save();
        goOn(ran);
        ran.restore();
        Check.due("restored behind many ticks", eye.apply(ran), due);
        FeedbackQueueSimulator upset = state.get();
        upset.save();
        upset(upset);
        upset.restore();
        Check.due("restored behind many changes", eye.apply(upset), due);
    }

    private static FeedbackQueueSimulator notRunYet() {
        FeedbackQueueSimulator x = new FeedbackQueueSimulator();
        x.run(3);
        for (int p = 0; p < 5; p++) {
            x.spawn(p % 4, p % 2, 3, p - 1, 4);
        }
        return x;
    }

    /** All that processes count goes on. */
    private static void goOn(FeedbackQueueSimulator x) {
        x.setOption(0, 0);
        x.setOption(3, 9);
        for (int k = 0; k < 10; k++) {
            x.run(100);
        }
    }

    private static String textBehind(FeedbackQueueSimulator x) {
        return x.append(0) + " " + x.errorPosition() + " " + Refusal.thrown(x, FeedbackQueueSimulator::execute) + " "
                + x.errorPosition();
    }

    private static void bufferAndErrorAreNotSaved() {
        FeedbackQueueSimulator x = new FeedbackQueueSimulator();
        Check.put(x, "late=");
        x.save();
        Check.put(x, "10;");
        x.restore();
        Check.due("all eight characters", x.append(0), 8);
        Refusal.thrown(x, FeedbackQueueSimulator::execute);
        x.restore();
        Check.due("the error of the text read since", x.errorPosition(), 5);
        Check.due("the emptied buffer", x.append(0), 0);
    }

    /** Changes all that can be changed. */
    private static void upset(FeedbackQueueSimulator x) {
        Refusal.thrown(x, y -> y.setLevels(1));
        for (int k = 0; k < 4; k++) {
            int place = k;
            x.setShare(place, 5);
            Refusal.thrown(x, y -> y.setLevel(place, 13, 17, 1));
            Refusal.thrown(x, y -> y.unpin(place));
            Refusal.thrown(x, y -> y.kill(place));
        }
        for (int option = 0; option < 6; option++) {
            x.setOption(option, 1);
        }
        Refusal.thrown(x, y -> y.spawn(3, 1, 2, 1, 5));
        Refusal.thrown(x, y -> y.pin(0, 0));
        x.run(77);
    }

    private static FeedbackQueueSimulator backToNothing() {
        FeedbackQueueSimulator x = new FeedbackQueueSimulator();
        x.save();
        x.spawn(0, 0, 1, 0, 1);
        x.run(5);
        x.restore();
        return x;
    }
}
