import java.util.Random;

/**
 * Promises 29 to 34: what is predicted is what then happens. Each prediction is compared with the ticks of another
 * machine that was made by the same calls; waits, runs and switches are read from its own counts, tick by tick.
 */
public final class ForecastTest {
    private static final int MACHINES = 400;

    public static void main(String[] args) {
        for (int seed = 0; seed < MACHINES; seed++) {
            Check.about("machine " + seed);
            Random random = new Random(~seed);
            ends(seed, 1 + random.nextInt(400));
            starvation(seed, 1 + random.nextInt(200));
            unfairness(seed, 1 + random.nextInt(200));
            gains(seed, 1 + random.nextInt(200));
            switches(seed, 1 + random.nextInt(20), 1 + random.nextInt(200));
            if (seed % 10 == 0) {
                bestBoost(seed, 1 + random.nextInt(100));
            }
        }
        Check.about("");
        Check.end();
    }

    /** The same seed makes the same machine. */
    private static FeedbackQueueSimulator machine(int seed) {
        Random random = new Random(seed);
        FeedbackQueueSimulator x = new FeedbackQueueSimulator();
        int levels = 1 + random.nextInt(5);
        x.setLevels(levels);
        for (int level = 0; level < levels; level++) {
            x.setLevel(level, 1 + random.nextInt(6), 1 + random.nextInt(12), random.nextInt(2));
        }
        x.setOption(0, random.nextInt(3) == 0 ? random.nextInt(60) : 0);
        x.setOption(1, random.nextInt(3) == 0 ? random.nextInt(40) : 0);
        x.setOption(2, random.nextInt(17));
        x.setOption(5, random.nextInt(2));
        for (int user = 0; user < 4; user++) {
            x.setShare(user, 1 + random.nextInt(9));
        }
        int processes = 1 + random.nextInt(10);
        for (int p = 0; p < processes; p++) {
            x.spawn(random.nextInt(4), random.nextInt(2), 1 + random.nextInt(9), random.nextInt(12) - 1, 1 + random.nextInt(20));
            if (random.nextInt(2) == 0) {
                x.run(1 + random.nextInt(9));
            }
            if (p < 3 && x.property(p, 1) == 1) {
                x.pin(p, p);
            }
        }
        int killed = random.nextInt(2 * processes);
        if (killed < processes && x.state(killed) < 3) {
            x.kill(killed);
        }
        if (random.nextInt(3) > 0) {
            x.run(1 + random.nextInt(60));
        }
        return x;
    }

    private static int levels(FeedbackQueueSimulator x) {
        for (int level = 0; level < 5; level++) {
            try {
                x.queueLength(level);
            } catch (IndexOutOfBoundsException e) {
                return level;
            }
        }
        return 5;
    }

    private static void ends(int seed, int limit) {
        FeedbackQueueSimulator x = machine(seed);
        FeedbackQueueSimulator later = machine(seed);
        later.run(Math.min(limit, 200));
        if (limit > 200) {
            later.run(limit - 200);
        }
        for (int p = 0; p < x.total(5); p++) {
            int due = later.state(p) == 3 ? later.property(p, 8) : -1;
            Check.due("end of " + p + " in " + limit, x.predictEnd(p, limit), due);
        }
    }

    private static void starvation(int seed, int ticks) {
        FeedbackQueueSimulator x = machine(seed);
        int[] due = waits(seed, ticks, -1);
        Check.due("starvation in " + ticks, x.starvation(ticks, 0), due[0]);
        Check.due("who starves in " + ticks, x.starvation(ticks, 1), due[1]);
    }

    /** The longest wait in one go, and the lowest process that had it; by the counts of ticks waited. */
    private static int[] waits(int seed, int ticks, int period) {
        int processes = machine(seed).total(5);
        int longest = 0;
        int lowest = -1;
        for (int p = 0; p < processes; p++) {
            FeedbackQueueSimulator x = machine(seed);
            if (period >= 0) {
                x.setOption(0, period);
            }
            int before = x.property(p, 6);
            int streak = 0;
            for (int k = 0; k < ticks; k++) {
                x.tick();
                int waited = x.property(p, 6);
                streak = waited > before ? streak + 1 : 0;
                before = waited;
                if (streak > longest) {
                    longest = streak;
                    lowest = p;
                }
            }
        }
        return new int[] {longest, lowest};
    }

    private static void bestBoost(int seed, int ticks) {
        int best = -1;
        int shortest = Integer.MAX_VALUE;
        for (int period = 0; period <= 20; period++) {
            int longest = waits(seed, ticks, period)[0];
            if (longest < shortest) {
                shortest = longest;
                best = period;
            }
        }
        Check.due("the best boost in " + ticks, machine(seed).bestBoost(ticks), best);
    }

    private static void unfairness(int seed, int ticks) {
        FeedbackQueueSimulator x = machine(seed);
        boolean[] considered = new boolean[4];
        for (int p = 0; p < x.total(5); p++) {
            considered[x.property(p, 0)] |= x.state(p) < 3;
        }
        int[] weight = new int[4];
        int weights = 0;
        for (int user = 0; user < 4; user++) {
            weight[user] = machine(seed).setShare(user, 1);
            weights += considered[user] ? weight[user] : 0;
        }
        FeedbackQueueSimulator later = machine(seed);
        int[] ran = new int[4];
        int busy = 0;
        for (int k = 0; k < ticks; k++) {
            int process = later.tick();
            if (process >= 0) {
                ran[later.property(process, 0)]++;
                busy++;
            }
        }
        float greatest = 0.0f;
        for (int user = 0; user < 4 && busy > 0; user++) {
            if (considered[user]) {
                float part = (float) ran[user] / (float) busy;
                float target = (float) weight[user] / (float) weights;
                greatest = Math.max(greatest, Math.abs(part - target));
            }
        }
        Check.due("unfairness in " + ticks, x.unfairnessBits(ticks), Float.floatToIntBits(greatest));
    }

    private static void gains(int seed, int ticks) {
        FeedbackQueueSimulator x = machine(seed);
        FeedbackQueueSimulator lenient = machine(seed);
        lenient.setOption(5, 0);
        lenient.run(ticks);
        FeedbackQueueSimulator strict = machine(seed);
        strict.setOption(5, 1);
        strict.run(ticks);
        for (int p = 0; p < x.total(5); p++) {
            Check.due("gain of " + p + " in " + ticks, x.gain(p, ticks), lenient.property(p, 5) - strict.property(p, 5));
        }
    }

    private static void switches(int seed, int quantum, int ticks) {
        FeedbackQueueSimulator x = machine(seed);
        FeedbackQueueSimulator present = machine(seed);
        present.run(ticks);
        for (int level = 0; level < levels(x); level++) {
            int due = switchesOf(seed, level, quantum, ticks) - present.total(1);
            Check.due("switches with " + quantum + " at " + level, x.switchesWith(level, quantum, ticks), due);
        }
    }

    /** No call tells a level's allotment and policy, but the seed does: it is asked for them again. */
    private static int switchesOf(int seed, int level, int quantum, int ticks) {
        Random random = new Random(seed);
        random.nextInt(5);
        int allotment = 0;
        int policy = 0;
        for (int k = 0; k <= level; k++) {
            random.nextInt(6);
            allotment = 1 + random.nextInt(12);
            policy = random.nextInt(2);
        }
        FeedbackQueueSimulator x = machine(seed);
        x.setLevel(level, quantum, allotment, policy);
        x.run(ticks);
        return x.total(1);
    }
}
