import java.util.Arrays;

/**
 * A simulator of a multilevel feedback queue. Indexes and divisors are tested before they are used,
 * so that only the exceptions of the document ever reach a caller. The three machines are made once
 * and copied into, so that no tick and no prediction makes an object.
 */
public final class FeedbackQueueSimulator {
    private static final int MOST_LEVELS = 5;
    private static final int MOST_QUANTUM = 20;
    private static final int MOST_ALLOTMENT = 40;
    private static final int FAIR = 1;

    private static final int BOOST_PERIOD = 0;
    private static final int DECAY_PERIOD = 1;
    private static final int DECAY_FACTOR = 2;
    private static final int LATE_MARGIN = 3;
    private static final int LATE_LIMIT = 4;
    private static final int ACCOUNTING = 5;
    private static final int OPTIONS = 6;
    private static final int LENIENT = 0;
    private static final int STRICT = 1;
    private static final int[] OPTION_LEAST = {0, 0, 0, 0, 1, 0};
    private static final int[] OPTION_MOST = {200, 200, 16, 9, 9, 1};
    private static final int[] OPTION_FIRST = {0, 0, 8, 1, 3, 1};

    private static final int USERS = 4;
    private static final int MOST_WEIGHT = 9;
    private static final int PINS = 3;

    private static final int MOST_PROCESSES = 10;
    private static final int NONE = -1;
    private static final int MOST_KIND = 1;
    private static final int INTERACTIVE = 1;
    private static final int MOST_UNITS = 60;
    private static final int MOST_ROUNDS = 20;
    private static final int MOST_PHASE = 30;
    private static final int NO_GIVE_UP = 0;
    private static final int YIELD = -1;

    private static final int READY = 0;
    private static final int CURRENT = 1;
    private static final int WAITING = 2;
    private static final int FINISHED = 3;
    private static final int KILLED = 4;
    private static final int ABSENT = 5;

    private static final int IDLE_TICKS = 0;
    private static final int SWITCHES = 1;
    private static final int PREEMPTIONS = 2;
    private static final int BOOSTS = 3;
    private static final int DECAYS = 4;
    private static final int CREATED = 5;
    private static final int ENDED = 6;
    private static final int KILLS = 7;
    private static final int TOTALS = 8;

    private static final int REMEMBERED = 32;
    private static final int MOST_TICKS = 200;
    private static final int MOST_LIMIT = 400;
    private static final int MOST_BOOST_TICKS = 100;
    private static final int MOST_BOOST_TRIED = 20;

    private static final int CAPACITY = 60;
    private static final int FIRST_SIGN = 33;
    private static final int LAST_SIGN = 126;

    private final Machine machine;
    private final Machine copy;
    private final Machine snapshot;
    private final TextReader reader;
    private final Starvation hunger;
    private boolean saved;

    public FeedbackQueueSimulator() {
        machine = new Machine();
        copy = new Machine();
        snapshot = new Machine();
        reader = new TextReader();
        hunger = new Starvation();
        saved = false;
    }

    public int setLevels(int levels) throws IllegalArgumentException, IllegalStateException {
        needRange(levels, 1, MOST_LEVELS);
        if (machine.created() > 0) {
            throw new IllegalStateException("a process has been created");
        }
        int previous = machine.levels;
        machine.levels = levels;
        return previous;
    }

    public int setLevel(int level, int quantum, int allotment, int policy)
            throws IndexOutOfBoundsException, IllegalArgumentException {
        needLevel(level);
        needRange(quantum, 1, MOST_QUANTUM);
        needRange(allotment, 1, MOST_ALLOTMENT);
        needRange(policy, 0, FAIR);
        Level row = machine.levelAt(level);
        int previous = row.quantum;
        row.configure(quantum, allotment, policy);
        return previous;
    }

    public int setOption(int option, int value) throws IndexOutOfBoundsException, IllegalArgumentException {
        if (option < 0 || option >= OPTIONS) {
            throw new IndexOutOfBoundsException("no such option");
        }
        needRange(value, OPTION_LEAST[option], OPTION_MOST[option]);
        int previous = machine.options[option];
        machine.options[option] = value;
        return previous;
    }

    public int setShare(int user, int weight) throws IndexOutOfBoundsException, IllegalArgumentException {
        needUser(user);
        needRange(weight, 1, MOST_WEIGHT);
        User row = machine.userAt(user);
        int previous = row.weight;
        row.weight = weight;
        return previous;
    }

    public int append(int packed) throws IllegalArgumentException, IllegalStateException {
        int signs = 0;
        for (int shift = 24; shift >= 0; shift -= 8) {
            int sign = packed >>> shift & 255;
            if (sign != 0) {
                needRange(sign, FIRST_SIGN, LAST_SIGN);
                signs++;
            }
        }
        if (reader.length + signs > CAPACITY) {
            throw new IllegalStateException("the buffer is full");
        }
        for (int shift = 24; shift >= 0; shift -= 8) {
            reader.addSign(packed >>> shift & 255);
        }
        return reader.length;
    }

    public int execute() throws IllegalArgumentException {
        // The commands change a copy, so that a text with an error leaves nothing behind.
        copy.copyFrom(machine);
        int commands = reader.readText(copy);
        reader.length = 0;
        if (reader.error >= 0) {
            throw new IllegalArgumentException("an error in the text");
        }
        machine.copyFrom(copy);
        return commands;
    }

    public int errorPosition() {
        return reader.error;
    }

    public int spawn(int user, int kind, int cpu, int io, int rounds)
            throws IndexOutOfBoundsException, IllegalArgumentException, IllegalStateException {
        needUser(user);
        needRange(kind, 0, MOST_KIND);
        needRange(cpu, 1, MOST_PHASE);
        needRange(io, YIELD, MOST_PHASE);
        if (rounds < 1 || rounds > MOST_ROUNDS) {
            throw new IllegalArgumentException("no such number of rounds");
        }
        if (machine.created() >= MOST_PROCESSES) {
            throw new IllegalStateException("there are 10 processes");
        }
        int[] computes = new int[rounds];
        int[] giveUps = new int[rounds];
        Arrays.fill(computes, cpu);
        Arrays.fill(giveUps, io);
        return machine.create(user, kind, new Program(computes, giveUps));
    }

    public int kill(int process) throws IndexOutOfBoundsException, IllegalStateException {
        needProcess(process);
        ProcessRow target = machine.processAt(process);
        if (!target.isAlive()) {
            throw new IllegalStateException("the process has ended");
        }
        int previous = target.state;
        machine.remove(target);
        return previous;
    }

    public int pin(int pin, int process)
            throws IndexOutOfBoundsException, IllegalArgumentException, IllegalStateException {
        if (pin < 0 || pin >= PINS) {
            throw new IndexOutOfBoundsException("no such pin");
        }
        needProcess(process);
        if (machine.processAt(process).kind != INTERACTIVE) {
            throw new IllegalArgumentException("the process is not interactive");
        }
        if (machine.pins[pin] != NONE || machine.isHeld(process)) {
            throw new IllegalStateException("the pin or the process is taken");
        }
        machine.pins[pin] = process;
        return machine.pinsInUse();
    }

    public int unpin(int pin) throws IndexOutOfBoundsException, IllegalStateException {
        if (pin < 0 || pin >= PINS) {
            throw new IndexOutOfBoundsException("no such pin");
        }
        int held = machine.pins[pin];
        if (held == NONE) {
            throw new IllegalStateException("the pin is empty");
        }
        machine.pins[pin] = NONE;
        return held;
    }

    public int tick() {
        return machine.advance();
    }

    public int run(int ticks) throws IllegalArgumentException {
        needRange(ticks, 1, MOST_TICKS);
        int before = machine.totals[IDLE_TICKS];
        machine.advanceBy(ticks);
        return machine.totals[IDLE_TICKS] - before;
    }

    public int clock() {
        return machine.clock;
    }

    public int state(int process) throws IndexOutOfBoundsException {
        needProcess(process);
        return machine.processAt(process).state;
    }

    public int property(int process, int what) throws IndexOutOfBoundsException, IllegalArgumentException {
        needProcess(process);
        needRange(what, 0, 11);
        return machine.processAt(process).part(what);
    }

    public int queueLength(int level) throws IndexOutOfBoundsException {
        needLevel(level);
        return machine.levelAt(level).length;
    }

    public int queued(int level, int index) throws IndexOutOfBoundsException {
        needLevel(level);
        Level row = machine.levelAt(level);
        if (index < 0 || index >= row.length) {
            throw new IndexOutOfBoundsException("no such place");
        }
        return row.at(index);
    }

    public int history(int back) throws IndexOutOfBoundsException {
        if (back < 0 || back >= REMEMBERED || back >= machine.clock) {
            throw new IndexOutOfBoundsException("no such tick");
        }
        return machine.ranAt(machine.clock - 1 - back);
    }

    public int usageEntries() {
        return machine.table.entries;
    }

    public int usageEntry(int index, int what) throws IndexOutOfBoundsException, IllegalArgumentException {
        if (index < 0 || index >= machine.table.entries) {
            throw new IndexOutOfBoundsException("no such entry");
        }
        needRange(what, 0, 2);
        return machine.table.part(index, what);
    }

    public int usageOf(int user, int level) throws IndexOutOfBoundsException {
        needUser(user);
        needLevel(level);
        return machine.table.part(machine.table.find(user, level), 2);
    }

    public int ratioBits(int user) throws IndexOutOfBoundsException {
        needUser(user);
        return floatBits(machine.userAt(user).ratio());
    }

    public int suspects() {
        int set = 0;
        for (int k = 0; k < MOST_PROCESSES; k++) {
            // The limit is at least 1, so a process that does not exist is never among them.
            if (machine.processAt(k).lateGiveUps >= machine.options[LATE_LIMIT]) {
                set |= 1 << k;
            }
        }
        return set;
    }

    public long lateBits(int process) throws IndexOutOfBoundsException {
        needProcess(process);
        ProcessRow row = machine.processAt(process);
        return quotientBits(row.lateGiveUps, row.giveUps);
    }

    public long meanBits(int what) throws IllegalArgumentException, IllegalStateException {
        needRange(what, 0, 2);
        int sum = 0;
        int finished = 0;
        for (int k = 0; k < MOST_PROCESSES; k++) {
            ProcessRow row = machine.processAt(k);
            if (row.state == FINISHED) {
                sum += row.measure(what);
                finished++;
            }
        }
        if (finished == 0) {
            throw new IllegalStateException("no process is finished");
        }
        return quotientBits(sum, finished);
    }

    public int total(int what) throws IllegalArgumentException {
        if (what < 0 || what >= TOTALS) {
            throw new IllegalArgumentException("no such total");
        }
        return machine.totals[what];
    }

    public int predictEnd(int process, int limit) throws IndexOutOfBoundsException, IllegalArgumentException {
        needProcess(process);
        needRange(limit, 1, MOST_LIMIT);
        copy.copyFrom(machine);
        copy.advanceBy(limit);
        ProcessRow row = copy.processAt(process);
        return row.state == FINISHED ? row.end : -1;
    }

    public int starvation(int ticks, int what) throws IllegalArgumentException {
        needRange(ticks, 1, MOST_TICKS);
        needRange(what, 0, 1);
        copy.copyFrom(machine);
        hunger.observe(copy, ticks);
        return what == 0 ? hunger.longest : hunger.process;
    }

    public int bestBoost(int ticks) throws IllegalArgumentException {
        needRange(ticks, 1, MOST_BOOST_TICKS);
        int best = 0;
        int shortest = ticks + 1;
        for (int period = 0; period <= MOST_BOOST_TRIED; period++) {
            copy.copyFrom(machine);
            copy.options[BOOST_PERIOD] = period;
            hunger.observe(copy, ticks);
            if (hunger.longest < shortest) {
                shortest = hunger.longest;
                best = period;
            }
        }
        return best;
    }

    public int unfairnessBits(int ticks) throws IllegalArgumentException {
        needRange(ticks, 1, MOST_TICKS);
        copy.copyFrom(machine);
        copy.advanceBy(ticks);
        int busy = ticks - (copy.totals[IDLE_TICKS] - machine.totals[IDLE_TICKS]);
        int weights = machine.weightOfActive();
        float greatest = 0.0f;
        for (int user = 0; user < USERS; user++) {
            if (busy > 0 && weights > 0 && machine.isActive(user)) {
                float part = (float) (copy.ticksOf(user) - machine.ticksOf(user)) / (float) busy;
                float target = (float) machine.userAt(user).weight / (float) weights;
                float difference = part - target;
                float distance = difference < 0.0f ? -difference : difference;
                greatest = distance > greatest ? distance : greatest;
            }
        }
        return floatBits(greatest);
    }

    public int gain(int process, int ticks) throws IndexOutOfBoundsException, IllegalArgumentException {
        needProcess(process);
        needRange(ticks, 1, MOST_TICKS);
        return ticksWith(LENIENT, process, ticks) - ticksWith(STRICT, process, ticks);
    }

    public int switchesWith(int level, int quantum, int ticks)
            throws IndexOutOfBoundsException, IllegalArgumentException {
        needLevel(level);
        needRange(quantum, 1, MOST_QUANTUM);
        needRange(ticks, 1, MOST_TICKS);
        int present = machine.levelAt(level).quantum;
        return switchesFor(level, quantum, ticks) - switchesFor(level, present, ticks);
    }

    public int save() {
        snapshot.copyFrom(machine);
        saved = true;
        return machine.clock;
    }

    public int restore() throws IllegalStateException {
        if (!saved) {
            throw new IllegalStateException("nothing was saved");
        }
        machine.copyFrom(snapshot);
        return machine.clock;
    }

    private int ticksWith(int accounting, int process, int ticks) {
        copy.copyFrom(machine);
        copy.options[ACCOUNTING] = accounting;
        copy.advanceBy(ticks);
        return copy.processAt(process).ran;
    }

    private int switchesFor(int level, int quantum, int ticks) {
        copy.copyFrom(machine);
        copy.levelAt(level).quantum = quantum;
        copy.advanceBy(ticks);
        return copy.totals[SWITCHES];
    }

    private void needLevel(int level) {
        if (level < 0 || level >= machine.levels) {
            throw new IndexOutOfBoundsException("no such level");
        }
    }

    private void needProcess(int process) {
        if (process < 0 || process >= machine.created()) {
            throw new IndexOutOfBoundsException("no such process");
        }
    }

    private static void needUser(int user) {
        if (user < 0 || user >= USERS) {
            throw new IndexOutOfBoundsException("no such user");
        }
    }

    private static void needRange(int value, int least, int most) {
        if (value < least || value > most) {
            throw new IllegalArgumentException("out of range");
        }
    }

    /**
     * The bits of a float that is not negative. The language leaves only arithmetic for this;
     * doubling and halving lose no digit, so the result is exact, also for subnormal floats,
     * which a usage reaches by many decays.
     */
    private static int floatBits(float value) {
        if (!(value > 0.0f)) {
            return 0;
        }
        float digits = value;
        int exponent = 127;
        for (int step = 0; step < 300 && digits >= 2.0f; step++) {
            digits = digits / 2.0f;
            exponent++;
        }
        for (int step = 0; step < 300 && digits < 1.0f; step++) {
            digits = digits * 2.0f;
            exponent--;
        }
        int whole = (int) (digits * 8388608.0f);
        return exponent > 0 ? (exponent << 23) + (whole - (1 << 23)) : whole >> (1 - exponent);
    }

    /** The bits of the double above / below; 0.0 if below is not positive. */
    private static long quotientBits(int above, int below) {
        if (below <= 0 || above <= 0) {
            return 0L;
        }
        double digits = (double) above / (double) below;
        int exponent = 1023;
        for (int step = 0; step < 64 && digits >= 2.0; step++) {
            digits = digits / 2.0;
            exponent++;
        }
        for (int step = 0; step < 64 && digits < 1.0; step++) {
            digits = digits * 2.0;
            exponent--;
        }
        long whole = (long) (digits * 4503599627370496.0);
        return ((long) exponent << 52) + (whole - (1L << 52));
    }

    /** What is saved, copied and simulated. */
    private static final class Machine {
        final Level[] rows = new Level[MOST_LEVELS];
        final User[] users = new User[USERS];
        final ProcessRow[] processes = new ProcessRow[MOST_PROCESSES];
        final UsageTable table = new UsageTable();
        final int[] options = new int[OPTIONS];
        final int[] pins = new int[PINS];
        final int[] totals = new int[TOTALS];
        final int[] past = new int[REMEMBERED];
        int levels = 3;
        int clock = 0;
        int current = NONE;
        int latest = NONE;

        Machine() {
            rows[0] = new Level(2, 4);
            rows[1] = new Level(4, 8);
            for (int k = 2; k < MOST_LEVELS; k++) {
                rows[k] = new Level(8, 16);
            }
            for (int k = 0; k < USERS; k++) {
                users[k] = new User();
            }
            Program empty = new Program(new int[0], new int[0]);
            for (int k = 0; k < MOST_PROCESSES; k++) {
                processes[k] = new ProcessRow(k, empty);
            }
            for (int k = 0; k < OPTIONS; k++) {
                options[k] = OPTION_FIRST[k];
            }
            Arrays.fill(pins, NONE);
        }

        void copyFrom(Machine other) {
            for (int k = 0; k < MOST_LEVELS; k++) {
                rows[k].copyFrom(other.rows[k]);
            }
            for (int k = 0; k < USERS; k++) {
                users[k].copyFrom(other.users[k]);
            }
            for (int k = 0; k < MOST_PROCESSES; k++) {
                processes[k].copyFrom(other.processes[k]);
            }
            table.copyFrom(other.table);
            System.arraycopy(other.options, 0, options, 0, OPTIONS);
            System.arraycopy(other.pins, 0, pins, 0, PINS);
            System.arraycopy(other.totals, 0, totals, 0, TOTALS);
            System.arraycopy(other.past, 0, past, 0, REMEMBERED);
            levels = other.levels;
            clock = other.clock;
            current = other.current;
            latest = other.latest;
        }

        // The three accessors test the index once for all their callers, who keep it in range.
        Level levelAt(int level) {
            return level >= 0 && level < MOST_LEVELS ? rows[level] : rows[0];
        }

        User userAt(int user) {
            return user >= 0 && user < USERS ? users[user] : users[0];
        }

        ProcessRow processAt(int process) {
            return process >= 0 && process < MOST_PROCESSES ? processes[process] : processes[0];
        }

        int created() {
            return totals[CREATED];
        }

        int create(int user, int kind, Program program) {
            ProcessRow fresh = processAt(created());
            fresh.begin(user, kind, program, clock);
            levelAt(0).addLast(fresh.number);
            totals[CREATED]++;
            return fresh.number;
        }

        void remove(ProcessRow p) {
            if (p.state == READY) {
                levelAt(p.level).removeAt(levelAt(p.level).find(p.number));
            }
            if (p.state == CURRENT) {
                leaveProcessor(p);
            }
            p.state = KILLED;
            p.end = clock;
            totals[KILLS]++;
        }

        boolean isHeld(int process) {
            for (int k = 0; k < PINS; k++) {
                if (pins[k] == process) {
                    return true;
                }
            }
            return false;
        }

        int pinsInUse() {
            int used = 0;
            for (int k = 0; k < PINS; k++) {
                used += pins[k] == NONE ? 0 : 1;
            }
            return used;
        }

        boolean isActive(int user) {
            for (int k = 0; k < MOST_PROCESSES; k++) {
                if (processes[k].isAlive() && processes[k].user == user) {
                    return true;
                }
            }
            return false;
        }

        int weightOfActive() {
            int sum = 0;
            for (int user = 0; user < USERS; user++) {
                sum += isActive(user) ? users[user].weight : 0;
            }
            return sum;
        }

        int ticksOf(int user) {
            int sum = 0;
            for (int k = 0; k < MOST_PROCESSES; k++) {
                sum += processes[k].user == user ? processes[k].ran : 0;
            }
            return sum;
        }

        int ranAt(int time) {
            return past[time & (REMEMBERED - 1)];
        }

        void advanceBy(int ticks) {
            for (int k = 0; k < ticks; k++) {
                advance();
            }
        }

        /** One tick; the process that ran, or NONE. */
        int advance() {
            wakeWaiting();
            if (isDue(options[BOOST_PERIOD])) {
                boost();
            }
            if (isDue(options[DECAY_PERIOD])) {
                decay();
            }
            preempt();
            if (current == NONE) {
                dispatch();
            }
            int running = current;
            if (running == NONE) {
                totals[IDLE_TICKS]++;
            } else {
                compute(processAt(running));
            }
            past[clock & (REMEMBERED - 1)] = running;
            clock++;
            if (running != NONE) {
                settle(processAt(running));
            }
            return running;
        }

        private boolean isDue(int period) {
            return period > 0 && clock > 0 && clock % period == 0;
        }

        private void wakeWaiting() {
            for (int k = 0; k < MOST_PROCESSES; k++) {
                ProcessRow p = processes[k];
                if (p.state == WAITING && p.wake == clock) {
                    if (isHeld(k)) {
                        p.level = 0;
                        p.budget = 0;
                    }
                    enqueue(p);
                }
            }
        }

        private void boost() {
            for (int k = 0; k < MOST_PROCESSES; k++) {
                if (processes[k].isAlive()) {
                    processes[k].level = 0;
                    processes[k].budget = 0;
                }
            }
            for (int level = 1; level < MOST_LEVELS; level++) {
                rows[0].takeAllOf(rows[level]);
            }
            if (current != NONE) {
                processAt(current).quantum = rows[0].quantum;
            }
            totals[BOOSTS]++;
        }

        private void decay() {
            float factor = (float) options[DECAY_FACTOR] / 16.0f;
            for (int k = 0; k < USERS; k++) {
                users[k].usage = users[k].usage * factor;
            }
            totals[DECAYS]++;
        }

        private void preempt() {
            if (current == NONE) {
                return;
            }
            ProcessRow p = processAt(current);
            int level = firstBusyLevel();
            if (level != NONE && level < p.level) {
                leaveProcessor(p);
                p.state = READY;
                levelAt(p.level).addFirst(p.number);
                totals[PREEMPTIONS]++;
            }
        }

        private int firstBusyLevel() {
            for (int level = 0; level < MOST_LEVELS; level++) {
                if (rows[level].length > 0) {
                    return level;
                }
            }
            return NONE;
        }

        private void dispatch() {
            int level = firstBusyLevel();
            if (level == NONE) {
                return;
            }
            Level row = levelAt(level);
            ProcessRow p = processAt(row.removeAt(row.policy == FAIR ? fairPlace(row) : 0));
            p.state = CURRENT;
            p.quantum = row.quantum;
            current = p.number;
            if (p.number != latest) {
                totals[SWITCHES]++;
            }
        }

        private int fairPlace(Level row) {
            int best = 0;
            int bestUser = processAt(row.at(0)).user;
            for (int place = 1; place < row.length; place++) {
                int user = processAt(row.at(place)).user;
                if (goesBefore(user, bestUser)) {
                    best = place;
                    bestUser = user;
                }
            }
            return best;
        }

        private boolean goesBefore(int user, int other) {
            float ratio = userAt(user).ratio();
            float otherRatio = userAt(other).ratio();
            return ratio < otherRatio || (ratio == otherRatio && user < other);
        }

        private void compute(ProcessRow p) {
            p.compute(clock);
            userAt(p.user).usage += 1.0f;
            table.charge(p.user, p.level);
            latest = p.number;
            for (int k = 0; k < MOST_PROCESSES; k++) {
                if (processes[k].state == READY) {
                    processes[k].waited++;
                }
            }
        }

        /** What becomes of the process that ran, when the clock has gone on. */
        private void settle(ProcessRow p) {
            if (p.isThrough()) {
                leaveProcessor(p);
                p.state = FINISHED;
                p.end = clock;
                totals[ENDED]++;
                return;
            }
            boolean spent = spendAllotment(p);
            int giveUp = p.left == 0 ? p.nextUnit() : NO_GIVE_UP;
            if (giveUp != NO_GIVE_UP) {
                countGiveUp(p, spent);
                leaveFor(p, giveUp);
            } else if (spent || p.quantum == 0) {
                leaveProcessor(p);
                enqueue(p);
            }
        }

        private boolean spendAllotment(ProcessRow p) {
            if (p.budget < levelAt(p.level).allotment) {
                return false;
            }
            p.budget = 0;
            if (p.level + 1 < levels) {
                p.level++;
                p.demotions++;
            }
            return true;
        }

        private void countGiveUp(ProcessRow p, boolean spent) {
            p.giveUps++;
            if (!spent && levelAt(p.level).allotment - p.budget <= options[LATE_MARGIN]) {
                p.lateGiveUps++;
            }
            if (options[ACCOUNTING] == LENIENT) {
                p.budget = 0;
            }
        }

        private void leaveFor(ProcessRow p, int giveUp) {
            leaveProcessor(p);
            if (giveUp == YIELD) {
                enqueue(p);
            } else {
                p.state = WAITING;
                p.wake = clock + giveUp;
            }
        }

        private void leaveProcessor(ProcessRow p) {
            current = NONE;
            p.quantum = 0;
        }

        private void enqueue(ProcessRow p) {
            p.state = READY;
            levelAt(p.level).addLast(p.number);
        }
    }

    /** A priority level with its queue of process numbers. */
    private static final class Level {
        final int[] queue = new int[MOST_PROCESSES];
        int length = 0;
        int quantum;
        int allotment;
        int policy = 0;

        Level(int quantum, int allotment) {
            this.quantum = quantum;
            this.allotment = allotment;
        }

        void copyFrom(Level other) {
            System.arraycopy(other.queue, 0, queue, 0, MOST_PROCESSES);
            length = other.length;
            configure(other.quantum, other.allotment, other.policy);
        }

        void configure(int newQuantum, int newAllotment, int newPolicy) {
            quantum = newQuantum;
            allotment = newAllotment;
            policy = newPolicy;
        }

        int at(int place) {
            return place >= 0 && place < MOST_PROCESSES ? queue[place] : NONE;
        }

        int find(int process) {
            for (int k = 0; k < length && k < MOST_PROCESSES; k++) {
                if (queue[k] == process) {
                    return k;
                }
            }
            return NONE;
        }

        void addLast(int process) {
            if (length >= 0 && length < MOST_PROCESSES) {
                queue[length] = process;
                length++;
            }
        }

        void addFirst(int process) {
            if (length >= MOST_PROCESSES) {
                return;
            }
            for (int k = length; k > 0; k--) {
                queue[k] = queue[k - 1];
            }
            queue[0] = process;
            length++;
        }

        int removeAt(int place) {
            if (place < 0 || place >= length || place >= MOST_PROCESSES) {
                return NONE;
            }
            int process = queue[place];
            for (int k = place + 1; k < length && k < MOST_PROCESSES; k++) {
                queue[k - 1] = queue[k];
            }
            length--;
            return process;
        }

        void takeAllOf(Level other) {
            for (int k = 0; k < other.length; k++) {
                addLast(other.at(k));
            }
            other.length = 0;
        }
    }

    private static final class User {
        int weight = 1;
        float usage = 0.0f;

        void copyFrom(User other) {
            weight = other.weight;
            usage = other.usage;
        }

        float ratio() {
            return weight > 0 ? usage / (float) weight : usage;
        }
    }

    /** Units that never change, so that copies of a machine may share them. */
    private static final class Program {
        private final int[] computes;
        private final int[] giveUps;

        Program(int[] computes, int[] giveUps) {
            this.computes = computes;
            this.giveUps = giveUps;
        }

        int length() {
            return computes.length;
        }

        int computeOf(int unit) {
            return unit >= 0 && unit < computes.length ? computes[unit] : 0;
        }

        int giveUpOf(int unit) {
            return unit >= 0 && unit < giveUps.length ? giveUps[unit] : NO_GIVE_UP;
        }
    }

    private static final class ProcessRow {
        final int number;
        Program program;
        int user;
        int kind;
        int birth;
        int state = ABSENT;
        int level;
        int budget;
        int quantum;
        int unit;
        int left;
        int wake;
        int ran;
        int waited;
        int first;
        int end;
        int giveUps;
        int lateGiveUps;
        int demotions;

        ProcessRow(int number, Program program) {
            this.number = number;
            this.program = program;
        }

        void begin(int newUser, int newKind, Program newProgram, int clock) {
            program = newProgram;
            user = newUser;
            kind = newKind;
            birth = clock;
            state = READY;
            level = 0;
            budget = 0;
            quantum = 0;
            unit = 0;
            left = newProgram.computeOf(0);
            wake = 0;
            ran = 0;
            waited = 0;
            first = -1;
            end = -1;
            giveUps = 0;
            lateGiveUps = 0;
            demotions = 0;
        }

        void copyFrom(ProcessRow other) {
            program = other.program;
            user = other.user;
            kind = other.kind;
            birth = other.birth;
            state = other.state;
            level = other.level;
            budget = other.budget;
            quantum = other.quantum;
            unit = other.unit;
            left = other.left;
            wake = other.wake;
            ran = other.ran;
            waited = other.waited;
            first = other.first;
            end = other.end;
            giveUps = other.giveUps;
            lateGiveUps = other.lateGiveUps;
            demotions = other.demotions;
        }

        boolean isAlive() {
            return state == READY || state == CURRENT || state == WAITING;
        }

        void compute(int clock) {
            if (first < 0) {
                first = clock;
            }
            left--;
            quantum--;
            budget++;
            ran++;
        }

        boolean isThrough() {
            return left == 0 && unit + 1 >= program.length();
        }

        /** Goes on to the next unit; the give-up of the one before it. */
        int nextUnit() {
            int giveUp = program.giveUpOf(unit);
            unit++;
            left = program.computeOf(unit);
            return giveUp;
        }

        int part(int what) {
            switch (what) {
                case 0: return user;
                case 1: return kind;
                case 2: return level;
                case 3: return budget;
                case 4: return quantum;
                case 5: return ran;
                case 6: return waited;
                case 7: return first;
                case 8: return end;
                case 9: return giveUps;
                case 10: return lateGiveUps;
                default: return demotions;
            }
        }

        /** What meanBits is the mean of. */
        int measure(int what) {
            switch (what) {
                case 0: return waited;
                case 1: return end - birth;
                default: return first - birth;
            }
        }
    }

    /** The ticks charged to pairs of a user and a level, in the order of their first charge. */
    private static final class UsageTable {
        private static final int SIZE = USERS * MOST_LEVELS;
        private final int[] userOf = new int[SIZE];
        private final int[] levelOf = new int[SIZE];
        private final int[] ticks = new int[SIZE];
        int entries = 0;

        void copyFrom(UsageTable other) {
            System.arraycopy(other.userOf, 0, userOf, 0, SIZE);
            System.arraycopy(other.levelOf, 0, levelOf, 0, SIZE);
            System.arraycopy(other.ticks, 0, ticks, 0, SIZE);
            entries = other.entries;
        }

        int find(int user, int level) {
            for (int k = 0; k < entries && k < SIZE; k++) {
                if (userOf[k] == user && levelOf[k] == level) {
                    return k;
                }
            }
            return NONE;
        }

        void charge(int user, int level) {
            int entry = find(user, level);
            if (entry < 0) {
                entry = entries;
            }
            if (entry >= SIZE) {
                return;
            }
            if (entry == entries) {
                userOf[entry] = user;
                levelOf[entry] = level;
                ticks[entry] = 0;
                entries++;
            }
            ticks[entry]++;
        }

        /** 0 where there is no entry, which is what usageOf answers then. */
        int part(int entry, int what) {
            if (entry < 0 || entry >= SIZE) {
                return 0;
            }
            switch (what) {
                case 0: return userOf[entry];
                case 1: return levelOf[entry];
                default: return ticks[entry];
            }
        }
    }

    /** The longest wait in queues without a break during simulated ticks. */
    private static final class Starvation {
        private final int[] streaks = new int[MOST_PROCESSES];
        int longest = 0;
        int process = NONE;

        void observe(Machine copy, int ticks) {
            Arrays.fill(streaks, 0);
            longest = 0;
            process = NONE;
            for (int k = 0; k < ticks; k++) {
                note(copy, copy.advance());
            }
        }

        private void note(Machine copy, int running) {
            for (int k = 0; k < MOST_PROCESSES; k++) {
                // A process that ran is in a queue only since the end of the tick: it did not wait.
                boolean waits = k != running && copy.processAt(k).state == READY;
                streaks[k] = waits ? streaks[k] + 1 : 0;
                if (streaks[k] > longest || (waits && streaks[k] == longest && k < process)) {
                    longest = streaks[k];
                    process = k;
                }
            }
        }
    }

    /**
     * The buffer and the reader of its text. An error is kept when it is found and reading goes on
     * to no effect, so that the steps of a command need no test each; only the first one counts.
     */
    private static final class TextReader {
        private static final int LEVEL_WORD = OPTIONS;
        private static final int SHARE_WORD = OPTIONS + 1;
        private static final int SPAWN_WORD = OPTIONS + 2;
        private static final int WORDS = OPTIONS + 3;
        private static final int MOST_OPEN = 3;
        private static final int MOST_REPETITIONS = 9;
        private static final int MOST_DIGITS = 3;
        private static final char END = 0;

        private final char[] text = new char[CAPACITY];
        private final int[] computes = new int[MOST_UNITS];
        private final int[] giveUps = new int[MOST_UNITS];
        private final int[] starts = new int[MOST_OPEN];
        private int units = 0;
        private int place = 0;
        int length = 0;
        int error = -1;

        void addSign(int sign) {
            if (sign != 0 && length >= 0 && length < CAPACITY) {
                text[length] = (char) sign;
                length++;
            }
        }

        /** Executes the commands on a machine as far as there is no error; their number. */
        int readText(Machine machine) {
            place = 0;
            error = -1;
            int commands = 0;
            // The first command is read from an empty text too, which ends too early for it.
            for (; commands < CAPACITY && error < 0 && (commands == 0 || place < length); commands++) {
                int start = place;
                int word = readWord();
                if (word < 0 || (word == SPAWN_WORD && machine.created() >= MOST_PROCESSES)) {
                    fail(start);
                } else if (word < OPTIONS) {
                    readOption(machine, word);
                } else if (word == LEVEL_WORD) {
                    readLevel(machine);
                } else if (word == SHARE_WORD) {
                    readShare(machine);
                } else {
                    readSpawn(machine);
                }
            }
            return commands;
        }

        private void readOption(Machine machine, int option) {
            if (option < 0 || option >= OPTIONS) {
                return;
            }
            expect('=');
            int value = readNumber(OPTION_LEAST[option], OPTION_MOST[option]);
            expect(';');
            if (error < 0) {
                machine.options[option] = value;
            }
        }

        private void readLevel(Machine machine) {
            int level = readDigit(0, machine.levels - 1);
            expect('=');
            int quantum = readNumber(1, MOST_QUANTUM);
            expect(',');
            int allotment = readNumber(1, MOST_ALLOTMENT);
            expect(',');
            int policy = readNumber(0, FAIR);
            expect(';');
            if (error < 0) {
                machine.levelAt(level).configure(quantum, allotment, policy);
            }
        }

        private void readShare(Machine machine) {
            int user = readDigit(0, USERS - 1);
            expect('=');
            int weight = readNumber(1, MOST_WEIGHT);
            expect(';');
            if (error < 0) {
                machine.userAt(user).weight = weight;
            }
        }

        private void readSpawn(Machine machine) {
            int user = readDigit(0, USERS - 1);
            int kind = readDigit(0, MOST_KIND);
            expect('=');
            readProgram();
            if (units > MOST_UNITS) {
                fail(place);
            }
            expect(';');
            if (error < 0 && units >= 0) {
                machine.create(user, kind,
                        new Program(Arrays.copyOf(computes, units), Arrays.copyOf(giveUps, units)));
            }
        }

        /** Reads units up to the first sign that goes on with none, outside all parentheses. */
        private void readProgram() {
            units = 0;
            int open = 0;
            boolean complete = false;
            for (int step = 0; step <= CAPACITY && error < 0; step++) {
                char sign = peek();
                if (sign == 'c') {
                    readCompute();
                    complete = true;
                } else if (sign == '(' && open < MOST_OPEN) {
                    place++;
                    starts[open] = units;
                    open++;
                    complete = false;
                } else if (sign == ')' && open > 0 && complete) {
                    place++;
                    open--;
                    repeatUnits(starts[open], readDigit(1, MOST_REPETITIONS));
                } else if (open == 0 && complete && sign != '(') {
                    return;
                } else {
                    fail(place);
                }
            }
        }

        private void readCompute() {
            place++;
            int compute = readNumber(1, MOST_PHASE);
            int giveUp = NO_GIVE_UP;
            if (peek() == 'y') {
                place++;
                giveUp = YIELD;
            } else if (peek() == 'i') {
                place++;
                giveUp = readNumber(1, MOST_PHASE);
            }
            addUnit(compute, giveUp);
        }

        /** One unit too many is counted but not kept: the semicolon has yet to be reached. */
        private void addUnit(int compute, int giveUp) {
            if (units >= 0 && units < MOST_UNITS) {
                computes[units] = compute;
                giveUps[units] = giveUp;
            }
            if (units <= MOST_UNITS) {
                units++;
            }
        }

        private void repeatUnits(int from, int times) {
            int to = units;
            for (int round = 1; round < times && units <= MOST_UNITS; round++) {
                for (int k = from; k >= 0 && k < to && k < MOST_UNITS; k++) {
                    addUnit(computes[k], giveUps[k]);
                }
            }
        }

        /** The number of the word that begins here, or -1. */
        private int readWord() {
            int start = place;
            for (int step = 0; step < CAPACITY && peek() >= 'a' && peek() <= 'z'; step++) {
                place++;
            }
            for (int word = 0; word < WORDS; word++) {
                if (isText(wordOf(word), start)) {
                    return word;
                }
            }
            return -1;
        }

        private boolean isText(String word, int start) {
            if (place - start != word.length()) {
                return false;
            }
            for (int k = 0; k < word.length(); k++) {
                int position = start + k;
                if (position < 0 || position >= CAPACITY || text[position] != word.charAt(k)) {
                    return false;
                }
            }
            return true;
        }

        private static String wordOf(int word) {
            switch (word) {
                case BOOST_PERIOD: return "boost";
                case DECAY_PERIOD: return "decay";
                case DECAY_FACTOR: return "factor";
                case LATE_MARGIN: return "late";
                case LATE_LIMIT: return "limit";
                case ACCOUNTING: return "strict";
                case LEVEL_WORD: return "level";
                case SHARE_WORD: return "share";
                default: return "spawn";
            }
        }

        private int readDigit(int least, int most) {
            int value = isDigit(peek()) ? peek() - '0' : -1;
            if (value < least || value > most) {
                fail(place);
                return -1;
            }
            place++;
            return value;
        }

        private int readNumber(int least, int most) {
            int start = place;
            int room = peek() == '0' ? 1 : MOST_DIGITS;
            int value = 0;
            for (int digits = 0; digits < room && isDigit(peek()); digits++) {
                value = value * 10 + (peek() - '0');
                place++;
            }
            if (place == start || value < least || value > most) {
                fail(start);
                return -1;
            }
            return value;
        }

        private void expect(char sign) {
            if (peek() == sign) {
                place++;
            } else {
                fail(place);
            }
        }

        private void fail(int position) {
            if (error < 0) {
                error = position;
            }
        }

        private char peek() {
            return place >= 0 && place < length && place < CAPACITY ? text[place] : END;
        }

        private static boolean isDigit(char sign) {
            return sign >= '0' && sign <= '9';
        }
    }
}
