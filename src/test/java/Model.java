import java.util.ArrayDeque;
import java.util.ArrayList;
import java.util.Arrays;
import java.util.Deque;
import java.util.HashMap;
import java.util.List;
import java.util.Map;
import java.util.NoSuchElementException;
import java.util.Set;

/**
 * The document once more, written plainly with the Java library and whole copies, so that random
 * runs can hold the program against it. It shares no line with the program.
 */
public final class Model {
    private static final Set<String> WORDS = Set.of("cluster", "point", "task", "margin", "hold", "sleep",
            "boost", "limit", "cool", "tick", "move", "ask", "drop", "stop", "start", "settle");
    private static final List<String> RULES = List.of("margin", "hold", "sleep", "boost", "limit", "cool");
    private static final int[][] RULE_BOUNDS = {{0, 100, 25}, {0, 20, 3}, {1, 20, 2}, {0, 9, 0}, {1, 9999, 9999}, {2, 16, 8}};
    private static final List<String> SORTS = List.of("tick", "move", "ask", "drop", "stop", "start", "settle");

    private static final class Fault extends RuntimeException {
        private static final long serialVersionUID = 1L;

        final int at;

        Fault(int at) {
            super(null, null, false, false);
            this.at = at;
        }
    }

    private static final class Cluster {
        String name;
        int cores, idle, wake, firstCore;
        final List<int[]> points = new ArrayList<>();
    }

    private record Task(String name, int work, int period) {
        int share() {
            return (int) Math.ceil(work / (double) period);
        }
    }

    private static final class Chip {
        final List<Cluster> clusters = new ArrayList<>();
        final List<Task> tasks = new ArrayList<>();
        final Map<String, Integer> rules = new HashMap<>();

        int rule(int i) {
            return rules.getOrDefault(RULES.get(i), RULE_BOUNDS[i][2]);
        }

        int cores() {
            return clusters.stream().mapToInt(c -> c.cores).sum();
        }

        int top() {
            return clusters.stream().flatMap(c -> c.points.stream()).mapToInt(p -> p[0]).max().orElse(0);
        }

        int clusterOf(int core) {
            int c = 0;
            while (core >= clusters.get(c).firstCore + clusters.get(c).cores) {
                c++;
            }
            return c;
        }
    }

    private record Ask(String asker, int cluster, int low, int high) {
    }

    private record Act(int sort, List<Integer> numbers, String asker) {
    }

    private static final class World {
        int time, heat, energy;
        int[] core = new int[4], rest = new int[4], load = new int[4], late = new int[4];
        boolean[] stopped = new boolean[4];
        int[] point = new int[3], held = new int[3], boost = new int[3];
        boolean[] sleeps = new boolean[6];
        int[] idled = new int[6];
        List<Ask> asks = new ArrayList<>();
        List<int[]> log = new ArrayList<>();

        World copy() {
            World w = new World();
            w.time = time;
            w.heat = heat;
            w.energy = energy;
            w.core = core.clone();
            w.rest = rest.clone();
            w.load = load.clone();
            w.late = late.clone();
            w.stopped = stopped.clone();
            w.point = point.clone();
            w.held = held.clone();
            w.boost = boost.clone();
            w.sleeps = sleeps.clone();
            w.idled = idled.clone();
            w.asks = new ArrayList<>(asks);
            w.log = new ArrayList<>(log);
            return w;
        }
    }

    private final List<Integer> tape = new ArrayList<>();
    private final List<List<Act>> scripts = new ArrayList<>();
    private final int[] status = new int[4];
    private final Deque<World> past = new ArrayDeque<>();
    private Chip chip;
    private World world = new World();
    private World image;

    // ---- texts

    private final class Parts {
        int at;

        void blanks() {
            while (at < tape.size() && tape.get(at) == ' ') {
                at++;
            }
        }

        String take(char from, char to) {
            blanks();
            StringBuilder s = new StringBuilder();
            for (int i = at; i < tape.size() && tape.get(i) >= from && tape.get(i) <= to; i++) {
                s.append((char) (int) tape.get(i));
            }
            return s.toString();
        }

        String word() {
            String s = take('a', 'z');
            if (s.isEmpty() || s.length() > 7) {
                throw new Fault(at);
            }
            at += s.length();
            return s;
        }

        int number(int least, int most) {
            String s = take('0', '9');
            if (s.isEmpty()) {
                throw new Fault(at);
            }
            java.math.BigInteger n = new java.math.BigInteger(s);
            if (n.bitLength() > 30 || n.intValue() < least || n.intValue() > most) {
                throw new Fault(at);
            }
            at += s.length();
            return n.intValue();
        }

        boolean ended() {
            blanks();
            return at == tape.size();
        }

        void semicolon() {
            if (tape.get(at) != ';') {
                throw new Fault(at);
            }
            at++;
        }
    }

    private String newName(Parts p, Chip c) {
        p.blanks();
        int begin = p.at;
        String name = p.word();
        boolean told = c.clusters.stream().anyMatch(k -> k.name.equals(name)) || c.tasks.stream().anyMatch(t -> t.name.equals(name));
        if (told || WORDS.contains(name)) {
            throw new Fault(begin);
        }
        return name;
    }

    private Chip parseChip() {
        Parts p = new Parts();
        Chip c = new Chip();
        while (true) {
            p.blanks();
            int begin = p.at;
            String word = p.word();
            if (word.equals("cluster") && c.clusters.size() < 3) {
                Cluster k = new Cluster();
                k.name = newName(p, c);
                k.firstCore = c.cores();
                k.cores = p.number(1, Math.min(3, 6 - k.firstCore));
                k.idle = p.number(0, 99);
                k.wake = p.number(0, 99);
                c.clusters.add(k);
            } else if (word.equals("point")) {
                p.blanks();
                int nameAt = p.at;
                String name = p.word();
                Cluster k = c.clusters.stream().filter(x -> x.name.equals(name)).findFirst().orElse(null);
                if (k == null || k.points.size() == 5) {
                    throw new Fault(nameAt);
                }
                int least = k.points.isEmpty() ? 1 : k.points.get(k.points.size() - 1)[0] + 1;
                int speed = p.number(least, 99);
                k.points.add(new int[] {speed, p.number(1, 99)});
            } else if (word.equals("task") && c.tasks.size() < 4) {
                String name = newName(p, c);
                int work = p.number(1, 999);
                c.tasks.add(new Task(name, work, p.number(1, 20)));
            } else if (RULES.contains(word) && !c.rules.containsKey(word)) {
                int[] b = RULE_BOUNDS[RULES.indexOf(word)];
                c.rules.put(word, p.number(b[0], b[1]));
            } else {
                throw new Fault(begin);
            }
            if (p.ended()) {
                break;
            }
            p.semicolon();
        }
        if (c.clusters.isEmpty() || c.clusters.stream().anyMatch(k -> k.points.isEmpty())) {
            throw new Fault(tape.size());
        }
        return c;
    }

    private List<Act> parseScript() {
        Parts p = new Parts();
        List<Act> acts = new ArrayList<>();
        while (true) {
            p.blanks();
            int begin = p.at;
            int sort = SORTS.indexOf(p.word());
            if (sort < 0) {
                throw new Fault(begin);
            }
            String asker = sort == 2 || sort == 3 ? p.word() : null;
            List<Integer> numbers = new ArrayList<>();
            int count = new int[] {1, 2, 3, 1, 1, 1, 0}[sort];
            for (int i = 0; i < count; i++) {
                numbers.add(sort == 0 ? p.number(1, 60) : p.number(0, 9));
            }
            acts.add(new Act(sort, numbers, asker));
            if (p.ended()) {
                return acts;
            }
            if (acts.size() == 12) {
                throw new Fault(p.at);
            }
            p.semicolon();
        }
    }

    private String parseAsker() {
        Parts p = new Parts();
        String word = p.word();
        if (!p.ended()) {
            throw new Fault(p.at);
        }
        return word;
    }

    public int feed(int a, int b, int c, int d, int e) {
        List<Integer> more = new ArrayList<>();
        for (int number : new int[] {a, b, c, d, e}) {
            for (int i = 3; i >= 0; i--) {
                int value = (number >> (8 * i)) & 0xff;
                if (value != 0) {
                    more.add(value);
                }
            }
        }
        if (tape.size() + more.size() > 320) {
            return -1;
        }
        tape.addAll(more);
        return tape.size();
    }

    public boolean end(int n) {
        if (n < 0 || n > tape.size()) {
            return false;
        }
        tape.subList(n, tape.size()).clear();
        return true;
    }

    public int fault(int sort) {
        try {
            switch (sort) {
                case 0: parseChip(); return -1;
                case 1: parseScript(); return -1;
                case 2: parseAsker(); return -1;
                default: return -2;
            }
        } catch (Fault f) {
            return f.at;
        }
    }

    public int text(int sort) {
        if (sort < 0 || sort > 1 || fault(sort) != -1 || sort == 1 && scripts.size() == 4) {
            return -1;
        }
        if (sort == 1) {
            scripts.add(parseScript());
            tape.clear();
            return scripts.size() - 1;
        }
        chip = parseChip();
        world = new World();
        past.clear();
        image = null;
        tape.clear();
        return chip.clusters.size();
    }

    // ---- what is told

    public int rule(int what) {
        if (chip == null || what < 0 || what > 7) {
            return -1;
        }
        return what < 6 ? chip.rule(what) : what == 6 ? chip.top() : chip.cores();
    }

    private boolean isCluster(int c) {
        return chip != null && c >= 0 && c < chip.clusters.size();
    }

    private boolean isCore(int k) {
        return chip != null && k >= 0 && k < chip.cores();
    }

    private boolean isTask(int t) {
        return chip != null && t >= 0 && t < chip.tasks.size();
    }

    private int tasks() {
        return chip == null ? 0 : chip.tasks.size();
    }

    public int cluster(int c, int what) {
        if (!isCluster(c) || what < 0 || what > 10) {
            throw new NoSuchElementException();
        }
        Cluster k = chip.clusters.get(c);
        return new int[] {k.cores, k.idle, k.wake, k.points.size(), world.point[c], world.held[c], world.boost[c],
            low(world, c), high(world, c), need(world, c), want(world, c)}[what];
    }

    public int point(int c, int p, int what) {
        if (!isCluster(c) || p < 0 || p >= chip.clusters.get(c).points.size() || what < 0 || what > 1) {
            return -1;
        }
        return chip.clusters.get(c).points.get(p)[what];
    }

    public int core(int k, int what) {
        if (!isCore(k) || what < 0 || what > 4) {
            return -1000000;
        }
        int bits = 0;
        int shares = 0;
        for (int t = 0; t < tasks(); t++) {
            if (world.core[t] == k) {
                bits += 1 << t;
                shares += share(world, t);
            }
        }
        int c = chip.clusterOf(k);
        int spare = chip.clusters.get(c).points.get(world.point[c])[0] - shares;
        return new int[] {c, world.sleeps[k] ? 1 : 0, world.idled[k], bits, spare}[what];
    }

    public int task(int t, int what) {
        if (!isTask(t) || what < 0 || what > 7) {
            return -1;
        }
        Task k = chip.tasks.get(t);
        return new int[] {k.work, k.period, world.core[t], world.rest[t], world.load[t], world.late[t],
            world.stopped[t] ? 1 : 0, share(world, t)}[what];
    }

    public int name(int sort, int number, int i) {
        String s = "";
        if (sort == 0 && isCluster(number)) {
            s = chip.clusters.get(number).name;
        } else if (sort == 1 && isTask(number)) {
            s = chip.tasks.get(number).name;
        } else if (sort == 2 && number >= 0 && number < world.asks.size()) {
            s = world.asks.get(number).asker;
        }
        return i < 0 || i >= s.length() ? -1 : s.charAt(i);
    }

    public int asked(int k, int what) {
        if (k < 0 || k >= world.asks.size() || what < 0 || what > 2) {
            return -1;
        }
        Ask a = world.asks.get(k);
        return what == 0 ? a.cluster : what == 1 ? a.low : a.high;
    }

    // ---- ticks

    private int share(World w, int t) {
        return w.stopped[t] ? 0 : chip.tasks.get(t).share();
    }

    private int low(World w, int c) {
        return w.asks.stream().filter(a -> a.cluster == c).mapToInt(a -> a.low).max().orElse(0);
    }

    private int high(World w, int c) {
        return w.asks.stream().filter(a -> a.cluster == c).mapToInt(a -> a.high).min().orElse(chip.clusters.get(c).points.size() - 1);
    }

    private int need(World w, int c) {
        Cluster k = chip.clusters.get(c);
        long greatest = 0;
        for (int core = k.firstCore; core < k.firstCore + k.cores; core++) {
            long sum = 0;
            for (int t = 0; t < tasks(); t++) {
                sum += w.core[t] == core ? w.load[t] : 0;
            }
            greatest = Math.max(greatest, sum);
        }
        long product = greatest * chip.top() * (100 + chip.rule(0));
        return (int) (product / 102400 + (product % 102400 == 0 ? 0 : 1));
    }

    private int want(World w, int c) {
        List<int[]> points = chip.clusters.get(c).points;
        if (w.boost[c] == 0) {
            for (int p = 0; p < points.size(); p++) {
                if (points.get(p)[0] >= need(w, c)) {
                    return p;
                }
            }
        }
        return points.size() - 1;
    }

    private int tickOnce(World w) {
        int used = 0;
        for (int t = 0; t < tasks(); t++) {
            if (!w.stopped[t] && w.time % chip.tasks.get(t).period == 0) {
                if (w.rest[t] > 0) {
                    w.late[t]++;
                }
                w.rest[t] = chip.tasks.get(t).work;
            }
        }
        for (int k = 0; k < chip.cores(); k++) {
            boolean toDo = false;
            for (int t = 0; t < tasks(); t++) {
                toDo |= w.core[t] == k && w.rest[t] > 0;
            }
            if (w.sleeps[k] && toDo) {
                w.sleeps[k] = false;
                used += chip.clusters.get(chip.clusterOf(k)).wake;
                w.boost[chip.clusterOf(k)] = chip.rule(3);
            }
        }
        for (int c = 0; c < chip.clusters.size(); c++) {
            govern(w, c);
        }
        int[] done = new int[4];
        for (int k = 0; k < chip.cores(); k++) {
            used += workOn(w, k, done);
        }
        for (int t = 0; t < tasks(); t++) {
            w.load[t] = (w.load[t] * 7 + done[t] * 1024 / chip.top()) / 8;
        }
        w.heat = w.heat + used - w.heat / chip.rule(5);
        w.energy += used;
        w.time++;
        return used;
    }

    private void govern(World w, int c) {
        int want = want(w, c);
        if (want > w.point[c]) {
            w.point[c] = want;
            w.held[c] = 0;
        } else if (want < w.point[c] && w.held[c] >= chip.rule(1)) {
            w.point[c]--;
            w.held[c] = 0;
        } else {
            w.held[c]++;
        }
        w.point[c] = Math.min(Math.max(w.point[c], low(w, c)), high(w, c));
        if (w.heat > chip.rule(4) && w.point[c] > 0) {
            w.point[c]--;
        }
        if (w.boost[c] > 0) {
            w.boost[c]--;
        }
    }

    private int workOn(World w, int k, int[] done) {
        Cluster c = chip.clusters.get(chip.clusterOf(k));
        int[] point = c.points.get(w.point[chip.clusterOf(k)]);
        List<Integer> order = new ArrayList<>();
        for (int t = 0; t < tasks(); t++) {
            if (w.core[t] == k && w.rest[t] > 0) {
                order.add(t);
            }
        }
        int now = w.time;
        order.sort((x, y) -> {
            int px = chip.tasks.get(x).period;
            int py = chip.tasks.get(y).period;
            return Integer.compare(px - now % px, py - now % py);
        });
        int units = 0;
        for (int t : order) {
            while (w.rest[t] > 0 && units < point[0]) {
                w.rest[t]--;
                done[t]++;
                units++;
            }
        }
        int used = units * point[1] + (w.sleeps[k] ? 0 : c.idle);
        if (units == 0) {
            w.idled[k]++;
            if (w.idled[k] >= chip.rule(2)) {
                w.sleeps[k] = true;
            }
        } else {
            w.idled[k] = 0;
        }
        return used;
    }

    // ---- ways

    /** -1: it does not fit. A core of -1: the task is not put. */
    private int priceOf(World w, int[] way) {
        int price = 0;
        for (int c = 0; c < chip.clusters.size(); c++) {
            Cluster k = chip.clusters.get(c);
            int greatest = 0;
            int all = 0;
            for (int core = k.firstCore; core < k.firstCore + k.cores; core++) {
                int sum = 0;
                boolean inUse = false;
                for (int t = 0; t < tasks(); t++) {
                    if (way[t] == core) {
                        sum += share(w, t);
                        inUse |= !w.stopped[t];
                    }
                }
                greatest = Math.max(greatest, sum);
                all += sum;
                price += inUse ? k.idle : 0;
            }
            int p = 0;
            while (p < k.points.size() && k.points.get(p)[0] < greatest) {
                p++;
            }
            if (p > high(w, c)) {
                return -1;
            }
            p = Math.min(Math.max(p, low(w, c)), high(w, c));
            price += all * k.points.get(p)[1];
        }
        return price;
    }

    private void allWays(int t, int[] way, List<int[]> found) {
        if (t == tasks()) {
            found.add(way.clone());
            return;
        }
        for (int k = 0; k < chip.cores(); k++) {
            way[t] = k;
            allWays(t + 1, way, found);
        }
    }

    private List<int[]> allWays() {
        List<int[]> found = new ArrayList<>();
        allWays(0, new int[tasks()], found);
        return found;
    }

    private int[] bestWay(World w) {
        int[] best = null;
        int least = 0;
        for (int[] way : allWays()) {
            int price = priceOf(w, way);
            if (price >= 0 && (best == null || price < least)) {
                best = way;
                least = price;
            }
        }
        return best;
    }

    private int[] greedyWay(World w) {
        int[] way = new int[tasks()];
        Arrays.fill(way, -1);
        List<Integer> order = new ArrayList<>();
        for (int t = 0; t < tasks(); t++) {
            order.add(t);
        }
        order.sort((x, y) -> share(w, y) - share(w, x));
        for (int t : order) {
            int at = -1;
            int least = -1;
            for (int k = 0; k < chip.cores(); k++) {
                way[t] = k;
                int price = priceOf(w, way);
                if (price >= 0 && (least < 0 || price < least)) {
                    least = price;
                    at = k;
                }
            }
            way[t] = at;
            if (at < 0) {
                return null;
            }
        }
        return way;
    }

    private int wayAnswer(int[] way, int what, int t) {
        if (way == null) {
            return -1;
        }
        return what == 0 ? priceOf(world, way) : what == 1 && isTask(t) ? way[t] : -1;
    }

    public int price() {
        return chip == null ? -1 : priceOf(world, world.core);
    }

    public int best(int what, int t) {
        return chip == null ? -1 : wayAnswer(bestWay(world), what, t);
    }

    public int greedy(int what, int t) {
        return chip == null ? -1 : wayAnswer(greedyWay(world), what, t);
    }

    public int moves() {
        int[] best = chip == null ? null : bestWay(world);
        if (best == null) {
            return -1;
        }
        int least = priceOf(world, best);
        List<int[]> row = new ArrayList<>();
        Map<String, Integer> far = new HashMap<>();
        int[] now = Arrays.copyOf(world.core, tasks());
        row.add(now);
        far.put(Arrays.toString(now), 0);
        for (int i = 0; i < row.size(); i++) {
            int[] way = row.get(i);
            int moved = far.get(Arrays.toString(way));
            if (priceOf(world, way) == least) {
                return moved;
            }
            for (int t = 0; t < tasks(); t++) {
                for (int k = 0; k < chip.cores(); k++) {
                    int[] other = way.clone();
                    other[t] = k;
                    if (priceOf(world, other) >= 0 && far.putIfAbsent(Arrays.toString(other), moved + 1) == null) {
                        row.add(other);
                    }
                }
            }
        }
        return -1;
    }

    public int odds(int chance) {
        if (chip == null || chance < 0 || chance > 100) {
            return -1;
        }
        return (int) oddsFrom(world.copy(), 0, 1000000000L, chance);
    }

    private long oddsFrom(World w, int t, long parts, int chance) {
        if (parts == 0) {
            return 0;
        }
        if (t == tasks()) {
            return bestWay(w) == null ? 0 : parts;
        }
        if (w.stopped[t]) {
            return oddsFrom(w, t + 1, parts, chance);
        }
        long off = parts * chance / 100;
        World other = w.copy();
        other.stopped[t] = true;
        return oddsFrom(other, t + 1, off, chance) + oddsFrom(w, t + 1, parts - off, chance);
    }

    public int race(int c, int work, int n, int what) {
        if (!isCluster(c) || work < 1 || work > 9999 || n < 1 || n > 99 || what < 0 || what > 2) {
            return -1000000;
        }
        Cluster k = chip.clusters.get(c);
        int[] last = k.points.get(k.points.size() - 1);
        int ticks = 0;
        for (int done = 0; done < work; done += last[0]) {
            ticks++;
        }
        int fast = ticks > n ? -1 : last[1] * work + k.idle * Math.min(n, ticks + chip.rule(2));
        int slow = -1;
        for (int p = k.points.size() - 1; p >= 0; p--) {
            if (k.points.get(p)[0] * n >= work) {
                slow = k.points.get(p)[1] * work + k.idle * n;
            }
        }
        return what == 0 ? fast : what == 1 ? slow : fast < 0 || slow < 0 ? -1 : fast <= slow ? 0 : 1;
    }

    public int ahead(int n, int what) {
        if (chip == null || n < 0 || n > 200 || world.time + n > 9999 || what < 0 || what > 5
                || what > 2 && !isCluster(what - 3)) {
            return -1;
        }
        World w = world.copy();
        for (int i = 0; i < n; i++) {
            tickOnce(w);
        }
        return what == 0 ? w.energy : what == 1 ? Arrays.stream(w.late).sum() : what == 2 ? w.heat : w.point[what - 3];
    }

    public int bound(int c, int n) {
        if (!isCluster(c) || n < 1 || n > 100 || world.time + n > 9999) {
            return -1;
        }
        for (int p = 0; p < chip.clusters.get(c).points.size(); p++) {
            World w = world.copy();
            w.asks.add(new Ask("", c, 0, p));
            for (int i = 0; i < n; i++) {
                tickOnce(w);
            }
            if (Arrays.equals(w.late, world.late)) {
                return p;
            }
        }
        return -1;
    }

    // ---- acts

    /** 0 to 3: the status; -1: it can be. */
    private int refusal(World w, Act a) {
        List<Integer> n = a.numbers;
        switch (a.sort) {
            case 0:
                return chip == null ? 0 : n.get(0) < 1 || n.get(0) > 60 ? 1 : w.time + n.get(0) > 9999 ? 3 : -1;
            case 1:
                return !isTask(n.get(0)) || !isCore(n.get(1)) ? 0 : w.core[n.get(0)] == n.get(1) ? 2 : -1;
            case 2:
            case 3:
                return askRefusal(w, a);
            case 4:
                return !isTask(n.get(0)) ? 0 : w.stopped[n.get(0)] ? 2 : -1;
            case 5:
                return !isTask(n.get(0)) ? 0 : w.stopped[n.get(0)] ? -1 : 2;
            default:
                if (chip == null) {
                    return 0;
                }
                int[] best = bestWay(w);
                return best == null ? 3 : Arrays.equals(best, Arrays.copyOf(w.core, tasks())) ? 2 : -1;
        }
    }

    private int askRefusal(World w, Act a) {
        int c = a.numbers.get(0);
        if (!isCluster(c)) {
            return 0;
        }
        if (a.asker == null) {
            return 1;
        }
        int k = askOf(w, a.asker, c);
        if (a.sort == 3) {
            return k < 0 ? 2 : -1;
        }
        int low = a.numbers.get(1);
        int high = a.numbers.get(2);
        int points = chip.clusters.get(c).points.size();
        if (low < 0 || low >= points || high < 0 || high >= points || low > high) {
            return 1;
        }
        if (k >= 0 && w.asks.get(k).equals(new Ask(a.asker, c, low, high))) {
            return 2;
        }
        return k < 0 && w.asks.size() == 6 ? 3 : -1;
    }

    private static int askOf(World w, String asker, int c) {
        for (int k = 0; k < w.asks.size(); k++) {
            if (w.asks.get(k).asker.equals(asker) && w.asks.get(k).cluster == c) {
                return k;
            }
        }
        return -1;
    }

    private int carry(World w, Act a) {
        int answer = carryOut(w, a);
        w.log.add(new int[] {a.sort, a.sort == 6 ? answer : a.numbers.get(0), w.time});
        return answer;
    }

    private int carryOut(World w, Act a) {
        int first = a.numbers.isEmpty() ? 0 : a.numbers.get(0);
        int answer = 0;
        switch (a.sort) {
            case 0:
                for (int i = 0; i < first; i++) {
                    answer += tickOnce(w);
                }
                return answer;
            case 1:
                answer = w.core[first];
                w.core[first] = a.numbers.get(1);
                return answer;
            case 2:
                Ask ask = new Ask(a.asker, first, a.numbers.get(1), a.numbers.get(2));
                int k = askOf(w, a.asker, first);
                if (k >= 0) {
                    w.asks.set(k, ask);
                    return k;
                }
                w.asks.add(ask);
                return w.asks.size() - 1;
            case 3:
                w.asks.remove(askOf(w, a.asker, first));
                return w.asks.size();
            case 4:
                answer = w.rest[first];
                w.rest[first] = 0;
                w.stopped[first] = true;
                return answer;
            case 5:
                w.stopped[first] = false;
                return w.time;
            default:
                int[] best = bestWay(w);
                for (int t = 0; t < best.length; t++) {
                    answer += best[t] == w.core[t] ? 0 : 1;
                    w.core[t] = best[t];
                }
                return answer;
        }
    }

    private boolean canDo(Act a) {
        return refusal(world, a) < 0;
    }

    private int doNow(Act a) {
        past.addLast(world.copy());
        if (past.size() > 40) {
            past.removeFirst();
        }
        return carry(world, a);
    }

    private int doOrCount(Act a) {
        int refused = refusal(world, a);
        if (refused >= 0) {
            status[refused]++;
            return -1;
        }
        return doNow(a);
    }

    private static Act act(int sort, Integer... numbers) {
        return new Act(sort, List.of(numbers), null);
    }

    public int tick(int n) {
        return doOrCount(act(0, n));
    }

    public int move(int t, int k) {
        return doOrCount(act(1, t, k));
    }

    private int tapeAct(int sort, Integer... numbers) {
        String asker = fault(2) == -1 ? parseAsker() : null;
        int answer = doOrCount(new Act(sort, List.of(numbers), asker));
        if (answer != -1) {
            tape.clear();
        }
        return answer;
    }

    public int ask(int c, int low, int high) {
        return tapeAct(2, c, low, high);
    }

    public int drop(int c) {
        return tapeAct(3, c);
    }

    public int stop(int t) {
        return doOrCount(act(4, t));
    }

    public int start(int t) {
        return doOrCount(act(5, t));
    }

    public int settle() {
        return doOrCount(act(6));
    }

    private java.math.BigInteger x;

    private int draw(int below) {
        java.math.BigInteger round = java.math.BigInteger.ONE.shiftLeft(64);
        x = x.multiply(new java.math.BigInteger("6364136223846793005")).add(new java.math.BigInteger("1442695040888963407")).mod(round);
        return x.shiftRight(33).mod(java.math.BigInteger.valueOf(below)).intValue();
    }

    public int years(int n, long seed) {
        if (chip == null || n < 1 || n > 40) {
            return -1;
        }
        x = java.math.BigInteger.valueOf(seed).mod(java.math.BigInteger.ONE.shiftLeft(64));
        for (int i = 0; i < n; i++) {
            int what = draw(8);
            Act a = act(6);
            if (what < 4) {
                a = act(0, draw(5) + 1);
            } else if (what < 7) {
                if (tasks() == 0) {
                    continue;
                }
                int t = draw(tasks());
                a = what == 6 ? act(world.stopped[t] ? 5 : 4, t) : act(1, t, draw(chip.cores()));
            }
            if (canDo(a)) {
                doNow(a);
            }
        }
        return world.time;
    }

    public int status(int what) {
        return what < 0 || what > 3 ? -1 : status[what];
    }

    public int undo() {
        if (past.isEmpty()) {
            return -1;
        }
        world = past.removeLast();
        return past.size();
    }

    public int log(int i, int what) {
        if (i < 0 || i >= Math.min(60, world.log.size()) || what < 0 || what > 2) {
            return -1000000;
        }
        return world.log.get(world.log.size() - 1 - i)[what];
    }

    public int step(int s, int i, int what) {
        if (s < 0 || s >= scripts.size() || i < 0 || i >= scripts.get(s).size() || what < 0 || what > 3) {
            return -1000000;
        }
        Act a = scripts.get(s).get(i);
        return what == 0 ? a.sort : what <= a.numbers.size() ? a.numbers.get(what - 1) : -1;
    }

    public int run(int s, int what) {
        if (chip == null || s < 0 || s >= scripts.size() || what < 0 || what > 1) {
            return -1000000;
        }
        World w = world.copy();
        int stuck = -1;
        for (int i = 0; i < scripts.get(s).size() && stuck < 0; i++) {
            if (refusal(w, scripts.get(s).get(i)) >= 0) {
                stuck = i;
            } else {
                carryOut(w, scripts.get(s).get(i));
            }
        }
        return what == 0 ? stuck : w.energy;
    }

    public int perform(int s) {
        if (chip == null || s < 0 || s >= scripts.size()) {
            return -1;
        }
        int done = 0;
        for (Act a : scripts.get(s)) {
            if (!canDo(a)) {
                break;
            }
            doNow(a);
            done++;
        }
        return done;
    }

    public int all(int what) {
        if (chip == null || what < 0 || what > 9) {
            return -1000000;
        }
        int asleep = 0;
        int stopped = 0;
        int resting = 0;
        int most = tasks() == 0 ? -1 : 0;
        int[] shares = new int[6];
        for (int k = 0; k < 6; k++) {
            asleep += world.sleeps[k] ? 1 << k : 0;
        }
        for (int t = 0; t < tasks(); t++) {
            stopped += world.stopped[t] ? 1 << t : 0;
            resting += world.rest[t] > 0 ? 1 << t : 0;
            most = world.load[t] > world.load[most] ? t : most;
            shares[world.core[t]] += share(world, t);
        }
        int fullest = 0;
        for (int k = 0; k < 6; k++) {
            fullest = shares[k] > shares[fullest] ? k : fullest;
        }
        return new int[] {world.time, world.heat, world.energy, Arrays.stream(world.late).sum(), asleep, stopped, resting,
            most, fullest, Arrays.stream(shares).sum()}[what];
    }

    public int image() {
        if (chip == null) {
            return -1;
        }
        image = world.copy();
        return world.time;
    }

    public int back() {
        if (image == null) {
            return -1;
        }
        world = image.copy();
        past.clear();
        return world.time;
    }

    public int count(int what) {
        if (what < 0 || what > 6) {
            return -1000000;
        }
        return new int[] {chip == null ? 0 : chip.clusters.size(), scripts.size(), tape.size(),
            Math.min(60, world.log.size()), past.size(), tasks(), world.asks.size()}[what];
    }
}
