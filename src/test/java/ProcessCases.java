import java.util.function.Supplier;

/** Promises 9 to 12, and what the description says of processes and pins. */
final class ProcessCases {
    private static final int DESCRIPTION = Sentences.DESCRIPTION;

    private ProcessCases() {
    }

    static void tell(Sentences s) {
        describedProcesses(s);
        describedPins(s);
        spawn(s);
        kill(s);
        pin(s);
        unpin(s);
    }

    private static void describedProcesses(Sentences s) {
        s.test(DESCRIPTION, "Processes. Processes are numbered from 0 in the order of their creation; there are at most 10.",
                ProcessCases::numbersOfProcesses);
        s.plain(DESCRIPTION, "A process has a user, a kind (0 batch, 1 interactive) and a program.");
        s.test(DESCRIPTION, "A program is a sequence of 1 to 60 units.", ProcessCases::oneAndSixtyUnits);
        s.plain(DESCRIPTION, "A unit computes for a number of ticks and may then give up the processor, either by a yield or"
                + " by an input/output operation of a number of ticks.");
        s.test(DESCRIPTION, "A give-up of the last unit is ignored.", ProcessCases::lastGiveUp);
        s.test(DESCRIPTION, "A new process is ready at the end of the queue of level 0 with a budget of 0 used ticks.",
                ProcessCases::newProcess);
        s.test(DESCRIPTION, "The state of a process is 0 (ready, in a queue), 1 (current), 2 (waiting for input/output),"
                + " 3 (finished) or 4 (killed).", ProcessCases::allStates);
        s.test(DESCRIPTION, "At most one process is current.", ProcessCases::oneCurrent);
    }

    private static void numbersOfProcesses() {
        FeedbackQueueSimulator x = new FeedbackQueueSimulator();
        Refusal.check(Refusal.INDEX, States.FRESH, y -> y.state(0));
        for (int p = 0; p < 10; p++) {
            if (p % 3 == 2) {
                Check.put(x, "spawn" + p % 4 + p % 2 + "=c1;");
                x.execute();
            } else {
                Check.due("number", x.spawn(p % 4, p % 2, 1, 0, 1), p);
            }
            Check.due("created", x.total(5), p + 1);
            Check.due("the user of " + p, x.property(p, 0), p % 4);
            // An ended process keeps its number.
            x.run(1);
        }
        Refusal.check(Refusal.STATE, States.FULL, y -> y.spawn(0, 0, 1, 0, 1));
        Refusal.check(Refusal.INDEX, States.FULL, y -> y.state(10));
    }

    private static void oneAndSixtyUnits() {
        FeedbackQueueSimulator one = new FeedbackQueueSimulator();
        one.spawn(0, 0, 1, 1, 1);
        one.tick();
        Check.due("one unit", one.state(0), 3);
        // 59 waits of one tick stand between 60 ticks of computation.
        FeedbackQueueSimulator sixty = new FeedbackQueueSimulator();
        Check.good(sixty, "spawn00=((c1i1)6)9(c1i1)6;", 1);
        Check.due("idle ticks", sixty.run(119), 59);
        Check.due("60 units", sixty.state(0), 3);
        Check.due("end", sixty.property(0, 8), 119);
        Check.due("give-ups", sixty.property(0, 9), 59);
        FeedbackQueueSimulator more = new FeedbackQueueSimulator();
        Check.bad(more, "spawn00=((c1i1)6)9(c1i1)7;", 25);
        FeedbackQueueSimulator none = new FeedbackQueueSimulator();
        Check.bad(none, "spawn00=;", 8);
    }

    private static void lastGiveUp() {
        for (int io : new int[] {-1, 1, 30}) {
            FeedbackQueueSimulator x = new FeedbackQueueSimulator();
            x.spawn(0, 0, 3, io, 1);
            x.run(3);
            Check.due("finished at once", x.state(0), 3);
            Check.due("end", x.property(0, 8), 3);
            Check.due("no give-up", x.property(0, 9), 0);
            Check.due("no late give-up", x.property(0, 10), 0);
            FeedbackQueueSimulator y = new FeedbackQueueSimulator();
            y.spawn(0, 0, 1, io, 2);
            y.run(32);
            Check.due("only the first of two", y.property(0, 9), 1);
        }
    }

    private static void newProcess() {
        FeedbackQueueSimulator x = new FeedbackQueueSimulator();
        x.spawn(0, 0, 30, 0, 1);
        x.run(5);
        x.spawn(0, 0, 30, 0, 1);
        x.spawn(0, 0, 30, 0, 1);
        Check.good(x, "spawn00=c1;", 1);
        for (int p = 1; p < 4; p++) {
            Check.due("ready", x.state(p), 0);
            Check.due("level", x.property(p, 2), 0);
            Check.due("budget", x.property(p, 3), 0);
            Check.due("place", x.queued(0, p - 1), p);
            int[] due = {0, 0, 0, 0, 0, 0, 0, -1, -1, 0, 0, 0};
            for (int what = 0; what < 12; what++) {
                Check.due("property " + what, x.property(p, what), due[what]);
            }
        }
        // The clock when it was created is known of those that a text creates too.
        FeedbackQueueSimulator y = new FeedbackQueueSimulator();
        y.run(9);
        Check.good(y, "spawn00=c3;", 1);
        y.run(3);
        Check.due("turnaround", y.meanBits(1), Double.doubleToLongBits(3.0));
        Check.due("response", y.meanBits(2), Double.doubleToLongBits(0.0));
    }

    private static void allStates() {
        FeedbackQueueSimulator x = States.BUSY.get();
        for (int p = 0; p < 5; p++) {
            Check.due("state", x.state(p), p);
        }
        Check.due("only the ready one is in a queue", inQueues(x), 1);
        Check.due("its level's queue", x.queued(x.property(0, 2), 0), 0);
    }

    private static int inQueues(FeedbackQueueSimulator x) {
        int sum = 0;
        for (int level = 0; level < 4; level++) {
            sum += x.queueLength(level);
        }
        return sum;
    }

    private static void oneCurrent() {
        FeedbackQueueSimulator none = new FeedbackQueueSimulator();
        none.spawn(0, 0, 2, 0, 1);
        Check.due("none before the first tick", none.state(0), 0);
        FeedbackQueueSimulator x = States.FULL.get();
        for (int t = 0; t < 20; t++) {
            int running = x.tick();
            int current = 0;
            for (int p = 0; p < 10; p++) {
                current += x.state(p) == 1 ? 1 : 0;
                Check.due("only the one that ran", x.state(p) == 1 && p != running ? 1 : 0, 0);
            }
            Check.due("at most one", current > 1 ? 1 : 0, 0);
        }
    }

    private static void describedPins(Sentences s) {
        s.test(DESCRIPTION, "Pins. There are 3 pins, numbered 0 to 2, all empty at first.", () -> {
            Range.check(0, 2, Refusal.INDEX, ProcessCases::interactive, (x, pin) -> x.pin(pin, 0));
            for (int pin = 0; pin < 3; pin++) {
                int empty = pin;
                Refusal.check(Refusal.STATE, States.FRESH, x -> x.unpin(empty));
            }
        });
        s.test(DESCRIPTION, "A pin can hold an interactive process.", () -> {
            Check.due("interactive", States.BUSY.get().pin(1, 0), 3);
            Refusal.check(Refusal.ARGUMENT, States.BUSY, x -> x.pin(1, 3));
        });
        s.test(DESCRIPTION, "No process is held by two pins.", () -> {
            for (int k = 0; k < 3; k++) {
                int pin = k;
                Supplier<FeedbackQueueSimulator> held = () -> {
                    FeedbackQueueSimulator x = interactive();
                    x.pin(pin, 1);
                    return x;
                };
                Refusal.check(Refusal.STATE, held, x -> x.pin((pin + 1) % 3, 1));
                Refusal.check(Refusal.STATE, held, x -> x.pin((pin + 2) % 3, 1));
                Refusal.check(Refusal.STATE, held, x -> x.pin(pin, 1));
                Check.due("another process", held.get().pin((pin + 1) % 3, 0), 2);
            }
        });
    }

    private static void spawn(Sentences s) {
        s.test(9, "Creates a process whose program has equal units.", ProcessCases::equalUnits);
        s.test(9, "user: the user, 0 to 3",
                () -> Range.check(0, 3, Refusal.INDEX, States.BUSY, (x, user) -> x.spawn(user, 0, 1, 0, 1)));
        s.test(9, "kind: 0 for batch, 1 for interactive",
                () -> Range.check(0, 1, Refusal.ARGUMENT, States.BUSY, (x, kind) -> x.spawn(0, kind, 1, 0, 1)));
        s.test(9, "cpu: the ticks of each computation, 1 to 30",
                () -> Range.check(1, 30, Refusal.ARGUMENT, States.BUSY, (x, cpu) -> x.spawn(0, 0, cpu, 0, 1)));
        s.test(9, "io: the ticks of the operation of each unit, 1 to 30, or 0 for no give-up, or -1 for a yield", () -> {
            Range.check(-1, 30, Refusal.ARGUMENT, States.BUSY, (x, io) -> x.spawn(0, 0, 1, io, 2));
            for (int io = -1; io <= 30; io++) {
                FeedbackQueueSimulator x = new FeedbackQueueSimulator();
                x.spawn(0, 0, 1, io, 2);
                x.tick();
                Check.due("state behind the first unit, io " + io, x.state(0), io < 0 ? 0 : io == 0 ? 1 : 2);
                Check.due("idle ticks, io " + io, x.run(31), 30);
                Check.due("end, io " + io, x.property(0, 8), 2 + (io > 0 ? io : 0));
                Check.due("give-ups, io " + io, x.property(0, 9), io == 0 ? 0 : 1);
            }
        });
        s.test(9, "rounds: the number of units, 1 to 20",
                () -> Range.check(1, 20, Refusal.ARGUMENT, States.BUSY, (x, rounds) -> x.spawn(0, 0, 1, 0, rounds)));
        s.test(9, "Returns the number of the process.", () -> {
            Check.due("the first", new FeedbackQueueSimulator().spawn(0, 0, 1, 0, 1), 0);
            FeedbackQueueSimulator x = States.BUSY.get();
            for (int p = 5; p < 10; p++) {
                Check.due("up to the tenth", x.spawn(0, 0, 1, 0, 1), p);
            }
        });
        refusedSpawns(s);
    }

    private static void equalUnits() {
        FeedbackQueueSimulator least = new FeedbackQueueSimulator();
        least.spawn(0, 0, 1, 0, 1);
        Check.ran(least, 0, -1);
        FeedbackQueueSimulator most = new FeedbackQueueSimulator();
        most.spawn(3, 1, 30, 30, 20);
        int idle = 0;
        for (int k = 0; k < 6; k++) {
            idle += most.run(195);
        }
        Check.due("19 waits of 30 ticks", idle, 570);
        Check.due("20 times 30 ticks", most.property(0, 5), 600);
        Check.due("end", most.property(0, 8), 1170);
        Check.due("give-ups", most.property(0, 9), 19);
    }

    private static void refusedSpawns(Sentences s) {
        s.test(9, "Throws IndexOutOfBoundsException if there is no such user", () -> {
            for (Supplier<FeedbackQueueSimulator> state : States.ALL) {
                Refusal.check(Refusal.INDEX, state, x -> x.spawn(4, 0, 1, 0, 1));
                Refusal.check(Refusal.INDEX, state, x -> x.spawn(-1, 1, 30, 30, 20));
                Refusal.check(Refusal.INDEX, state, x -> x.spawn(4, 2, 0, -2, 0));
            }
        });
        s.test(9, "Throws IllegalArgumentException if another argument is out of range", () -> {
            for (Supplier<FeedbackQueueSimulator> state : States.ALL) {
                Refusal.check(Refusal.ARGUMENT, state, x -> x.spawn(0, 2, 1, 0, 1));
                Refusal.check(Refusal.ARGUMENT, state, x -> x.spawn(0, 0, 31, 0, 1));
                Refusal.check(Refusal.ARGUMENT, state, x -> x.spawn(3, 1, 1, -2, 1));
                Refusal.check(Refusal.ARGUMENT, state, x -> x.spawn(3, 1, 30, 30, 21));
                Refusal.check(Refusal.ARGUMENT, state, x -> x.spawn(3, -1, 0, 31, 0));
            }
        });
        s.test(9, "Throws IllegalStateException if there are 10 processes", () -> {
            Refusal.check(Refusal.STATE, States.FULL, x -> x.spawn(0, 0, 1, 0, 1));
            Refusal.check(Refusal.STATE, States.FULL, x -> x.spawn(3, 1, 30, 30, 20));
            Refusal.check(Refusal.STATE, ProcessCases::tenEnded, x -> x.spawn(0, 0, 1, 0, 1));
            FeedbackQueueSimulator nine = new FeedbackQueueSimulator();
            for (int p = 0; p < 9; p++) {
                nine.spawn(0, 0, 1, 0, 1);
            }
            Check.due("the tenth", nine.spawn(0, 0, 1, 0, 1), 9);
        });
    }

    private static void kill(Sentences s) {
        s.plain(10, "Kills a process.");
        s.test(10, "It leaves its queue or the processor, and its end is the present clock.", ProcessCases::killedLeave);
        s.test(10, "A pin goes on holding it.", () -> {
            FeedbackQueueSimulator x = States.BUSY.get();
            x.kill(2);
            Refusal.check(Refusal.STATE, ProcessCases::pinnedAndKilled, y -> y.pin(2, 0));
            Check.due("held", x.unpin(0), 2);
            Check.due("held since before", x.unpin(2), 4);
        });
        s.test(10, "process: the process",
                () -> Range.check(0, 9, Refusal.INDEX, States.FULL, (x, process) -> x.kill(process)));
        s.test(10, "Returns its previous state.", () -> {
            for (int p = 0; p < 3; p++) {
                FeedbackQueueSimulator x = States.BUSY.get();
                Check.due("state " + p, x.kill(p), p);
                Check.due("state behind it", x.state(p), 4);
            }
        });
        s.test(10, "Throws IndexOutOfBoundsException if there is no such process", () -> {
            Refusal.check(Refusal.INDEX, States.FRESH, x -> x.kill(0));
            Refusal.check(Refusal.INDEX, States.BUSY, x -> x.kill(5));
            Refusal.check(Refusal.INDEX, States.BUSY, x -> x.kill(-1));
            Refusal.check(Refusal.INDEX, States.FULL, x -> x.kill(10));
        });
        s.test(10, "Throws IllegalStateException if it is finished or killed", () -> {
            Refusal.check(Refusal.STATE, States.BUSY, x -> x.kill(3));
            Refusal.check(Refusal.STATE, States.BUSY, x -> x.kill(4));
            for (int k = 0; k < 3; k++) {
                int process = k;
                Refusal.check(Refusal.STATE, States.OVER, x -> x.kill(process));
            }
        });
    }

    private static void killedLeave() {
        FeedbackQueueSimulator first = new FeedbackQueueSimulator();
        first.spawn(0, 0, 1, 0, 1);
        Check.due("before the first tick", first.kill(0), 0);
        Check.due("end", first.property(0, 8), 0);
        Check.due("never ran", first.property(0, 7), -1);
        Check.due("empty queue", first.queueLength(0), 0);
        Check.ran(first, -1);
        // First, middle and last place of a full queue.
        for (int place : new int[] {0, 4, 9}) {
            FeedbackQueueSimulator x = new FeedbackQueueSimulator();
            for (int p = 0; p < 10; p++) {
                x.spawn(0, 0, 30, 0, 1);
            }
            x.kill(place);
            Check.due("length", x.queueLength(0), 9);
            for (int k = 0; k < 9; k++) {
                Check.due("place " + k, x.queued(0, k), k < place ? k : k + 1);
            }
        }
        FeedbackQueueSimulator x = States.BUSY.get();
        int clock = x.clock();
        int level = x.property(1, 2);
        int budget = x.property(1, 3);
        x.kill(1);
        Check.due("end", x.property(1, 8), clock);
        Check.due("no remaining quantum", x.property(1, 4), 0);
        Check.due("its level stays", x.property(1, 2), level);
        Check.due("its budget stays", x.property(1, 3), budget);
        Check.due("the processor is free", x.tick(), 0);
        x.kill(2);
        x.kill(0);
        Check.due("no operation ends any more", x.run(40), 40);
    }

    private static void pin(Sentences s) {
        s.test(11, "Lets a pin hold a process, whatever its state.", () -> {
            for (int p = 0; p < 5; p++) {
                FeedbackQueueSimulator x = new FeedbackQueueSimulator();
                inState(x, p);
                Check.due("state", x.state(0), p);
                Check.due("pinned in state " + p, x.pin(1, 0), 1);
                Check.due("held in state " + p, x.unpin(1), 0);
            }
        });
        s.test(11, "pin: the pin, 0 to 2",
                () -> Range.check(0, 2, Refusal.INDEX, ProcessCases::interactive, (x, pin) -> x.pin(pin, 1)));
        s.test(11, "process: the process",
                () -> Range.check(0, 1, Refusal.INDEX, ProcessCases::interactive, (x, process) -> x.pin(2, process)));
        s.test(11, "Returns the number of pins that hold a process.", () -> {
            FeedbackQueueSimulator x = new FeedbackQueueSimulator();
            for (int p = 0; p < 3; p++) {
                x.spawn(0, 1, 1, 0, 1);
            }
            Check.due("one", x.pin(2, 0), 1);
            Check.due("two", x.pin(0, 1), 2);
            Check.due("three", x.pin(1, 2), 3);
            x.unpin(0);
            x.unpin(2);
            Check.due("two again", x.pin(0, 0), 2);
        });
        refusedPins(s);
    }

    private static void refusedPins(Sentences s) {
        s.test(11, "Throws IndexOutOfBoundsException if there is no such pin or process", () -> {
            Refusal.check(Refusal.INDEX, States.FRESH, x -> x.pin(0, 0));
            Refusal.check(Refusal.INDEX, States.BUSY, x -> x.pin(3, 0));
            Refusal.check(Refusal.INDEX, States.BUSY, x -> x.pin(-1, 0));
            Refusal.check(Refusal.INDEX, States.BUSY, x -> x.pin(1, 5));
            Refusal.check(Refusal.INDEX, States.BUSY, x -> x.pin(1, -1));
            // A batch process, a process that is held, a pin that is not empty.
            Refusal.check(Refusal.INDEX, States.BUSY, x -> x.pin(3, 3));
            Refusal.check(Refusal.INDEX, States.BUSY, x -> x.pin(3, 2));
            Refusal.check(Refusal.INDEX, States.BUSY, x -> x.pin(0, 5));
        });
        s.test(11, "Throws IllegalArgumentException if the process is not interactive", () -> {
            Refusal.check(Refusal.ARGUMENT, States.BUSY, x -> x.pin(1, 3));
            Refusal.check(Refusal.ARGUMENT, States.BUSY, x -> x.pin(0, 3));
            Refusal.check(Refusal.ARGUMENT, States.FULL, x -> x.pin(2, 8));
        });
        s.test(11, "Throws IllegalStateException if the pin is not empty or the process is held by a pin", () -> {
            Refusal.check(Refusal.STATE, States.BUSY, x -> x.pin(0, 0));
            Refusal.check(Refusal.STATE, States.BUSY, x -> x.pin(2, 0));
            Refusal.check(Refusal.STATE, States.BUSY, x -> x.pin(1, 2));
            Refusal.check(Refusal.STATE, States.BUSY, x -> x.pin(1, 4));
            Refusal.check(Refusal.STATE, States.BUSY, x -> x.pin(0, 2));
            Refusal.check(Refusal.STATE, States.FULL, x -> x.pin(0, 7));
        });
    }

    private static void unpin(Sentences s) {
        s.plain(12, "Empties a pin.");
        s.test(12, "pin: the pin, 0 to 2",
                () -> Range.check(0, 2, Refusal.INDEX, States.FULL, (x, pin) -> x.unpin(pin)));
        s.test(12, "Returns the process that it held.", () -> {
            FeedbackQueueSimulator x = States.FULL.get();
            for (int pin = 0; pin < 3; pin++) {
                Check.due("pin " + pin, x.unpin(pin), 2 * pin + 1);
            }
        });
        s.test(12, "Throws IndexOutOfBoundsException if there is no such pin", () -> {
            for (Supplier<FeedbackQueueSimulator> state : States.ALL) {
                Refusal.check(Refusal.INDEX, state, x -> x.unpin(3));
                Refusal.check(Refusal.INDEX, state, x -> x.unpin(-1));
            }
        });
        s.test(12, "Throws IllegalStateException if it is empty", () -> {
            Refusal.check(Refusal.STATE, States.FRESH, x -> x.unpin(0));
            Refusal.check(Refusal.STATE, States.FRESH, x -> x.unpin(2));
            Refusal.check(Refusal.STATE, States.BUSY, x -> x.unpin(1));
            Refusal.check(Refusal.STATE, ProcessCases::unpinned, x -> x.unpin(0));
        });
    }

    private static FeedbackQueueSimulator interactive() {
        FeedbackQueueSimulator x = new FeedbackQueueSimulator();
        x.spawn(0, 1, 3, 2, 9);
        x.spawn(0, 1, 3, 2, 9);
        x.run(7);
        return x;
    }

    private static FeedbackQueueSimulator unpinned() {
        FeedbackQueueSimulator x = interactive();
        x.pin(0, 1);
        x.unpin(0);
        return x;
    }

    private static FeedbackQueueSimulator pinnedAndKilled() {
        FeedbackQueueSimulator x = interactive();
        x.pin(1, 0);
        x.kill(0);
        return x;
    }

    private static FeedbackQueueSimulator tenEnded() {
        FeedbackQueueSimulator x = new FeedbackQueueSimulator();
        for (int p = 0; p < 10; p++) {
            x.spawn(0, 0, 1, 0, 1);
        }
        x.run(5);
        for (int p = 5; p < 10; p++) {
            x.kill(p);
        }
        return x;
    }

    /** Makes process 0 and brings it into a state. */
    private static void inState(FeedbackQueueSimulator x, int state) {
        x.spawn(0, 1, state == 3 ? 1 : 2, state == 2 ? 9 : 0, state == 3 ? 1 : 2);
        if (state > 0) {
            x.run(state == 2 ? 2 : 1);
        }
        if (state == 4) {
            x.kill(0);
        }
    }
}
