import java.util.ArrayList;
import java.util.Arrays;
import java.util.LinkedHashMap;
import java.util.List;
import java.util.Map;

/**
 * The document once more, written apart from the class and with the whole Java library: what the
 * random runs compare with. Its calls answer as the class does, or throw.
 */
final class Reference {
    private static final String[] WORDS = {"boost", "decay", "factor", "late", "limit", "strict"};
    private static final int[][] RANGES = {{0, 200}, {0, 200}, {0, 16}, {0, 9}, {1, 9}, {0, 1}};

    private Core core = new Core();
    private Core saved = null;
    private String buffer = "";
    private int error = -1;

    /** A process; its program is a list of single ticks: what follows a tick of computation. */
    private static final class Proc {
        static final int GO_ON = 0;
        int user, kind, birth, level, budget, quantum, ran, waited, giveUps, late, demotions;
        int first = -1, end = -1, state = 0, wake = -1;
        List<Integer> after;

        Proc copy() {
            Proc c = new Proc();
            c.user = user; c.kind = kind; c.birth = birth; c.level = level; c.budget = budget;
            c.quantum = quantum; c.ran = ran; c.waited = waited; c.giveUps = giveUps; c.late = late;
            c.demotions = demotions; c.first = first; c.end = end; c.state = state; c.wake = wake;
            c.after = after;
            return c;
        }

        boolean alive() {
            return state < 3;
        }
    }

    private static final class Core {
        int levels = 3, clock = 0, current = -1, latest = -1;
        int[] quantum = {2, 4, 8, 8, 8}, allotment = {4, 8, 16, 16, 16}, policy = new int[5];
        int[] option = {0, 0, 8, 1, 3, 1}, weight = {1, 1, 1, 1}, pins = {-1, -1, -1}, total = new int[8];
        float[] usage = new float[4];
        List<Proc> procs = new ArrayList<>();
        List<List<Integer>> queues = new ArrayList<>();
        List<Integer> past = new ArrayList<>();
        Map<String, Integer> table = new LinkedHashMap<>();

        Core() {
            for (int k = 0; k < 5; k++) {
                queues.add(new ArrayList<>());
            }
        }

        Core copy() {
            Core c = new Core();
            c.levels = levels; c.clock = clock; c.current = current; c.latest = latest;
            c.quantum = quantum.clone(); c.allotment = allotment.clone(); c.policy = policy.clone();
            c.option = option.clone(); c.weight = weight.clone(); c.pins = pins.clone();
            c.total = total.clone(); c.usage = usage.clone();
            for (Proc p : procs) {
                c.procs.add(p.copy());
            }
            for (int k = 0; k < 5; k++) {
                c.queues.get(k).addAll(queues.get(k));
            }
            c.past.addAll(past);
            c.table.putAll(table);
            return c;
        }

        int add(int user, int kind, List<int[]> units) {
            Proc p = new Proc();
            p.user = user;
            p.kind = kind;
            p.birth = clock;
            p.after = new ArrayList<>();
            for (int[] unit : units) {
                for (int k = 1; k < unit[0]; k++) {
                    p.after.add(Proc.GO_ON);
                }
                p.after.add(unit[1]);
            }
            procs.add(p);
            queues.get(0).add(procs.size() - 1);
            total[5]++;
            return procs.size() - 1;
        }

        float ratio(int user) {
            return usage[user] / weight[user];
        }

        boolean due(int period) {
            return period != 0 && clock != 0 && clock % period == 0;
        }

        List<Integer> waiters = new ArrayList<>();

        int tick() {
            int t = clock;
            for (int k = 0; k < procs.size(); k++) {
                Proc p = procs.get(k);
                if (p.state == 2 && p.wake == t) {
                    for (int pin : pins) {
                        if (pin == k) {
                            p.level = p.budget = 0;
                        }
                    }
                    p.state = 0;
                    queues.get(p.level).add(k);
                }
            }
            if (due(option[0])) {
                List<Integer> all = new ArrayList<>();
                for (List<Integer> q : queues) {
                    all.addAll(q);
                    q.clear();
                }
                queues.get(0).addAll(all);
                for (Proc p : procs) {
                    if (p.alive()) {
                        p.level = p.budget = 0;
                    }
                }
                if (current >= 0) {
                    procs.get(current).quantum = quantum[0];
                }
                total[3]++;
            }
            if (due(option[1])) {
                for (int u = 0; u < 4; u++) {
                    usage[u] *= option[2] / 16f;
                }
                total[4]++;
            }
            if (current >= 0) {
                Proc p = procs.get(current);
                boolean better = false;
                for (int l = 0; l < p.level; l++) {
                    better |= !queues.get(l).isEmpty();
                }
                if (better) {
                    p.state = 0;
                    p.quantum = 0;
                    queues.get(p.level).add(0, current);
                    current = -1;
                    total[2]++;
                }
            }
            for (int l = 0; l < levels && current < 0; l++) {
                List<Integer> q = queues.get(l);
                if (q.isEmpty()) {
                    continue;
                }
                int chosen = q.get(0);
                if (policy[l] == 1) {
                    int user = -1;
                    for (int u = 3; u >= 0; u--) {
                        boolean there = false;
                        for (int k : q) {
                            there |= procs.get(k).user == u;
                        }
                        if (there && (user < 0 || ratio(u) <= ratio(user))) {
                            user = u;
                        }
                    }
                    for (int k = q.size() - 1; k >= 0; k--) {
                        if (procs.get(q.get(k)).user == user) {
                            chosen = q.get(k);
                        }
                    }
                }
                q.remove(Integer.valueOf(chosen));
                current = chosen;
                procs.get(chosen).state = 1;
                procs.get(chosen).quantum = quantum[l];
                total[1] += latest == chosen ? 0 : 1;
            }
            waiters.clear();
            for (List<Integer> q : queues) {
                waiters.addAll(q);
            }
            int running = current;
            past.add(running);
            clock = t + 1;
            if (running < 0) {
                total[0]++;
                return -1;
            }
            for (int k : waiters) {
                procs.get(k).waited++;
            }
            Proc p = procs.get(running);
            latest = running;
            p.first = p.first < 0 ? t : p.first;
            p.quantum--;
            p.budget++;
            usage[p.user] += 1.0f;
            table.merge(p.user + "," + p.level, 1, Integer::sum);
            int then = p.after.get(p.ran);
            p.ran++;
            if (p.ran == p.after.size()) {
                p.state = 3;
                p.end = t + 1;
                p.quantum = 0;
                current = -1;
                total[6]++;
                return running;
            }
            boolean zeroed = p.budget >= allotment[p.level];
            boolean late = !zeroed && allotment[p.level] - p.budget <= option[3];
            if (zeroed) {
                p.budget = 0;
                if (p.level < levels - 1) {
                    p.level++;
                    p.demotions++;
                }
            }
            if (then != Proc.GO_ON) {
                p.giveUps++;
                p.late += late ? 1 : 0;
                p.budget = option[5] == 0 ? 0 : p.budget;
                p.state = then > 0 ? 2 : 0;
                p.wake = t + 1 + then;
            } else if (zeroed || p.quantum == 0) {
                p.state = 0;
            }
            if (p.state != 1) {
                current = -1;
                p.quantum = 0;
            }
            if (p.state == 0) {
                queues.get(p.level).add(running);
            }
            return running;
        }
    }

    private static void index(boolean fine) {
        if (!fine) {
            throw new IndexOutOfBoundsException();
        }
    }

    private static void argument(boolean fine) {
        if (!fine) {
            throw new IllegalArgumentException();
        }
    }

    private static void situation(boolean fine) {
        if (!fine) {
            throw new IllegalStateException();
        }
    }

    private static boolean in(int x, int least, int most) {
        return least <= x && x <= most;
    }

    private Proc proc(int process) {
        index(in(process, 0, core.procs.size() - 1));
        return core.procs.get(process);
    }

    private void level(int level) {
        index(in(level, 0, core.levels - 1));
    }

    /** One call of the face, by its name. */
    long call(String name, int[] a) {
        switch (name) {
            case "setLevels": {
                argument(in(a[0], 1, 5));
                situation(core.procs.isEmpty());
                int before = core.levels;
                core.levels = a[0];
                return before;
            }
            case "setLevel": {
                level(a[0]);
                argument(in(a[1], 1, 20) && in(a[2], 1, 40) && in(a[3], 0, 1));
                return setLevel(core, a[0], a[1], a[2], a[3]);
            }
            case "setOption": {
                index(in(a[0], 0, 5));
                argument(in(a[1], RANGES[a[0]][0], RANGES[a[0]][1]));
                int before = core.option[a[0]];
                core.option[a[0]] = a[1];
                return before;
            }
            case "setShare": {
                index(in(a[0], 0, 3));
                argument(in(a[1], 1, 9));
                int before = core.weight[a[0]];
                core.weight[a[0]] = a[1];
                return before;
            }
            case "append": {
                StringBuilder more = new StringBuilder();
                for (int part : new int[] {a[0] >> 24 & 255, a[0] >> 16 & 255, a[0] >> 8 & 255, a[0] & 255}) {
                    argument(part == 0 || in(part, 33, 126));
                    more.append(part == 0 ? "" : "" + (char) part);
                }
                situation(buffer.length() + more.length() <= 60);
                buffer += more;
                return buffer.length();
            }
            case "execute": return execute();
            case "errorPosition": return error;
            case "spawn": {
                index(in(a[0], 0, 3));
                argument(in(a[1], 0, 1) && in(a[2], 1, 30) && in(a[3], -1, 30) && in(a[4], 1, 20));
                situation(core.procs.size() < 10);
                List<int[]> units = new ArrayList<>();
                for (int k = 0; k < a[4]; k++) {
                    units.add(new int[] {a[2], a[3]});
                }
                return core.add(a[0], a[1], units);
            }
            case "kill": {
                Proc p = proc(a[0]);
                situation(p.alive());
                int before = p.state;
                for (List<Integer> q : core.queues) {
                    q.remove(Integer.valueOf(a[0]));
                }
                core.current = core.current == a[0] ? -1 : core.current;
                p.quantum = 0;
                p.state = 4;
                p.end = core.clock;
                core.total[7]++;
                return before;
            }
            case "pin": {
                index(in(a[0], 0, 2));
                argument(proc(a[1]).kind == 1);
                situation(core.pins[a[0]] < 0);
                int count = 1;
                for (int pin : core.pins) {
                    situation(pin != a[1]);
                    count += pin >= 0 ? 1 : 0;
                }
                core.pins[a[0]] = a[1];
                return count;
            }
            case "unpin": {
                index(in(a[0], 0, 2));
                situation(core.pins[a[0]] >= 0);
                int held = core.pins[a[0]];
                core.pins[a[0]] = -1;
                return held;
            }
            case "tick": return core.tick();
            case "run": {
                argument(in(a[0], 1, 200));
                int idle = 0;
                for (int k = 0; k < a[0]; k++) {
                    idle += core.tick() < 0 ? 1 : 0;
                }
                return idle;
            }
            default: return query(name, a);
        }
    }

    private static int setLevel(Core core, int level, int quantum, int allotment, int policy) {
        int before = core.quantum[level];
        core.quantum[level] = quantum;
        core.allotment[level] = allotment;
        core.policy[level] = policy;
        return before;
    }

    private long query(String name, int[] a) {
        switch (name) {
            case "clock": return core.clock;
            case "state": return proc(a[0]).state;
            case "property": {
                Proc p = proc(a[0]);
                argument(in(a[1], 0, 11));
                return new int[] {p.user, p.kind, p.level, p.budget, p.quantum, p.ran, p.waited, p.first, p.end,
                    p.giveUps, p.late, p.demotions}[a[1]];
            }
            case "queueLength": {
                level(a[0]);
                return core.queues.get(a[0]).size();
            }
            case "queued": {
                level(a[0]);
                index(in(a[1], 0, core.queues.get(a[0]).size() - 1));
                return core.queues.get(a[0]).get(a[1]);
            }
            case "history": {
                index(in(a[0], 0, 31) && a[0] < core.past.size());
                return core.past.get(core.past.size() - 1 - a[0]);
            }
            case "usageEntries": return core.table.size();
            case "usageEntry": {
                index(in(a[0], 0, core.table.size() - 1));
                argument(in(a[1], 0, 2));
                String key = new ArrayList<>(core.table.keySet()).get(a[0]);
                return a[1] == 2 ? core.table.get(key) : Integer.parseInt(key.split(",")[a[1]]);
            }
            case "usageOf": {
                index(in(a[0], 0, 3));
                level(a[1]);
                return core.table.getOrDefault(a[0] + "," + a[1], 0);
            }
            case "ratioBits": {
                index(in(a[0], 0, 3));
                return Float.floatToIntBits(core.ratio(a[0]));
            }
            case "suspects": {
                int set = 0;
                for (int k = 0; k < core.procs.size(); k++) {
                    set += core.procs.get(k).late >= core.option[4] ? 1 << k : 0;
                }
                return set;
            }
            case "lateBits": {
                Proc p = proc(a[0]);
                return Double.doubleToLongBits(p.giveUps == 0 ? 0.0 : (double) p.late / p.giveUps);
            }
            case "meanBits": return meanBits(a[0]);
            case "total": {
                argument(in(a[0], 0, 7));
                return core.total[a[0]];
            }
            case "save": {
                saved = core.copy();
                return core.clock;
            }
            case "restore": {
                situation(saved != null);
                core = saved.copy();
                return core.clock;
            }
            default: return prediction(name, a);
        }
    }

    private long meanBits(int what) {
        argument(in(what, 0, 2));
        int sum = 0;
        int number = 0;
        for (Proc p : core.procs) {
            if (p.state == 3) {
                sum += what == 0 ? p.waited : (what == 1 ? p.end : p.first) - p.birth;
                number++;
            }
        }
        situation(number > 0);
        return Double.doubleToLongBits((double) sum / number);
    }

    private long prediction(String name, int[] a) {
        switch (name) {
            case "predictEnd": {
                proc(a[0]);
                argument(in(a[1], 1, 400));
                Proc p = after(core.copy(), a[1]).procs.get(a[0]);
                return p.state == 3 ? p.end : -1;
            }
            case "starvation": {
                argument(in(a[0], 1, 200) && in(a[1], 0, 1));
                return longest(core.copy(), a[0])[a[1]];
            }
            case "bestBoost": {
                argument(in(a[0], 1, 100));
                int best = -1;
                int least = 1000;
                for (int period = 20; period >= 0; period--) {
                    Core c = core.copy();
                    c.option[0] = period;
                    int longest = longest(c, a[0])[0];
                    if (longest <= least) {
                        least = longest;
                        best = period;
                    }
                }
                return best;
            }
            case "unfairnessBits": {
                argument(in(a[0], 1, 200));
                return Float.floatToIntBits(unfairness(a[0]));
            }
            case "gain": {
                proc(a[0]);
                argument(in(a[1], 1, 200));
                Core lenient = core.copy();
                Core strict = core.copy();
                lenient.option[5] = 0;
                strict.option[5] = 1;
                return after(lenient, a[1]).procs.get(a[0]).ran - after(strict, a[1]).procs.get(a[0]).ran;
            }
            case "switchesWith": {
                level(a[0]);
                argument(in(a[1], 1, 20) && in(a[2], 1, 200));
                Core other = core.copy();
                other.quantum[a[0]] = a[1];
                return after(other, a[2]).total[1] - after(core.copy(), a[2]).total[1];
            }
            default: throw new AssertionError(name);
        }
    }

    private static Core after(Core c, int ticks) {
        for (int k = 0; k < ticks; k++) {
            c.tick();
        }
        return c;
    }

    private static int[] longest(Core c, int ticks) {
        int[][] waits = new int[10][ticks + 1];
        for (int t = 1; t <= ticks; t++) {
            c.tick();
            for (int k : c.waiters) {
                waits[k][t] = waits[k][t - 1] + 1;
            }
        }
        int[] result = {0, -1};
        for (int k = 0; k < 10; k++) {
            int most = Arrays.stream(waits[k]).max().getAsInt();
            if (most > result[0]) {
                result = new int[] {most, k};
            }
        }
        return result;
    }

    private float unfairness(int ticks) {
        Core c = core.copy();
        int[] ran = new int[4];
        int busy = 0;
        for (int k = 0; k < ticks; k++) {
            int process = c.tick();
            if (process >= 0) {
                ran[c.procs.get(process).user]++;
                busy++;
            }
        }
        boolean[] considered = new boolean[4];
        for (Proc p : core.procs) {
            considered[p.user] |= p.alive();
        }
        int sum = 0;
        for (int u = 0; u < 4; u++) {
            sum += considered[u] ? core.weight[u] : 0;
        }
        float greatest = 0.0f;
        for (int u = 0; u < 4 && busy > 0; u++) {
            if (considered[u]) {
                greatest = Math.max(greatest, Math.abs((float) ran[u] / busy - (float) core.weight[u] / sum));
            }
        }
        return greatest;
    }

    /** Ends the reading of a text at its first error. */
    private static final class TextError extends RuntimeException {
        private static final long serialVersionUID = 1L;
        final int position;

        TextError(int position) {
            this.position = position;
        }
    }

    private int at;
    private String text;

    private long execute() {
        text = buffer + "\n";
        buffer = "";
        at = 0;
        error = -1;
        Core trial = core.copy();
        int commands = 0;
        try {
            do {
                command(trial);
                commands++;
            } while (text.charAt(at) != '\n');
        } catch (TextError e) {
            error = e.position;
            throw new IllegalArgumentException();
        }
        core = trial;
        return commands;
    }

    private void command(Core trial) {
        int start = at;
        while (Character.isLowerCase(text.charAt(at))) {
            at++;
        }
        String word = text.substring(start, at);
        int option = Arrays.asList(WORDS).indexOf(word);
        if (option >= 0) {
            sign('=');
            trial.option[option] = number(RANGES[option][0], RANGES[option][1]);
        } else if (word.equals("level")) {
            int level = digit(0, trial.levels - 1);
            sign('=');
            int quantum = number(1, 20);
            sign(',');
            int allotment = number(1, 40);
            sign(',');
            setLevel(trial, level, quantum, allotment, number(0, 1));
        } else if (word.equals("share")) {
            int user = digit(0, 3);
            sign('=');
            trial.weight[user] = number(1, 9);
        } else if (word.equals("spawn") && trial.procs.size() < 10) {
            int user = digit(0, 3);
            int kind = digit(0, 1);
            sign('=');
            List<int[]> units = program(0);
            if (units.size() > 60) {
                throw new TextError(at);
            }
            trial.add(user, kind, units);
        } else {
            throw new TextError(start);
        }
        sign(';');
    }

    private List<int[]> program(int depth) {
        List<int[]> units = new ArrayList<>();
        do {
            if (text.charAt(at) == '(' && depth < 3) {
                at++;
                List<int[]> inner = program(depth + 1);
                sign(')');
                int times = digit(1, 9);
                for (int k = 0; k < times; k++) {
                    units.addAll(inner);
                }
            } else {
                sign('c');
                int[] unit = {number(1, 30), 0};
                if (text.charAt(at) == 'y') {
                    at++;
                    unit[1] = -1;
                } else if (text.charAt(at) == 'i') {
                    at++;
                    unit[1] = number(1, 30);
                }
                units.add(unit);
            }
        } while (text.charAt(at) == 'c' || text.charAt(at) == '(');
        return units;
    }

    private void sign(char wanted) {
        if (text.charAt(at) != wanted) {
            throw new TextError(at);
        }
        at++;
    }

    private int digit(int least, int most) {
        char c = text.charAt(at);
        if (c < '0' || c > '9' || !in(c - '0', least, most)) {
            throw new TextError(at);
        }
        at++;
        return c - '0';
    }

    private int number(int least, int most) {
        java.util.regex.Matcher m = java.util.regex.Pattern.compile("0|[1-9][0-9]{0,2}").matcher(text);
        m.region(at, text.length());
        if (!m.lookingAt() || !in(Integer.parseInt(m.group()), least, most)) {
            throw new TextError(at);
        }
        at = m.end();
        return Integer.parseInt(m.group());
    }
}
