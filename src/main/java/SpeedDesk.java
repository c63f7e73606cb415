import java.util.NoSuchElementException;

/** Speed and cost of cores chosen by load; the promises are in ../shared/DOC.md. */
public final class SpeedDesk {
    public static final int NONE = -1;
    public static final int HIDDEN = -1000000;

    private static final int MOST_BYTES = 320;
    private static final int MOST_CLUSTERS = 3;
    private static final int MOST_POINTS = 5;
    private static final int MOST_TASKS = 4;
    private static final int MOST_CORES = 6;
    private static final int MOST_CLUSTER_CORES = 3;
    private static final int MOST_ASKS = 6;
    private static final int MOST_SCRIPTS = 4;
    private static final int MOST_STEPS = 12;
    private static final int MOST_LETTERS = 7;
    private static final int MOST_TICKS = 60;
    private static final int MOST_AHEAD = 200;
    private static final int MOST_BOUND = 100;
    private static final int MOST_RACE_WORK = 9999;
    private static final int MOST_RACE_TICKS = 99;
    private static final int MOST_YEARS = 40;
    private static final int LAST_TIME = 9999;
    private static final int ALL_PARTS = 1000000000;

    /** 6 cores to the 4 tasks. */
    private static final int MOST_WAYS = 1296;
    private static final int LOG_LENGTH = 60;
    private static final int MOST_UNDONE = 40;

    /** As many records more are kept as can be undone: the log then shows older ones again. */
    private static final int LOG_KEPT = LOG_LENGTH + MOST_UNDONE;

    private static final int LOAD_UNIT = 1024;

    private static final int TICK = 0;
    private static final int MOVE = 1;
    private static final int ASK = 2;
    private static final int DROP = 3;
    private static final int STOP = 4;
    private static final int START = 5;
    private static final int SETTLE = 6;

    private static final int NO_SUCH = 0;
    private static final int OUT_OF_BOUNDS = 1;
    private static final int NOTHING_TO_DO = 2;
    private static final int TOO_MUCH = 3;

    private static final int MARGIN = 0;
    private static final int HOLD = 1;
    private static final int SLEEP = 2;
    private static final int BOOST = 3;
    private static final int LIMIT = 4;
    private static final int COOL = 5;
    private static final int RULES = 6;
    private static final int[] RULE_LEAST = {0, 0, 1, 0, 1, 2};
    private static final int[] RULE_MOST = {100, 20, 20, 9, 9999, 16};
    private static final int[] RULE_UNTOLD = {25, 3, 2, 0, 9999, 8};

    private final Texts texts = new Texts();
    private final Tape tape = texts.tape;
    private Chip chip = new Chip();
    private Chip draft = new Chip();
    private final Script[] scripts = newScripts();
    private int scriptCount;
    private final State state = new State();
    private final State trial = new State();
    private final State imaged = new State();
    private boolean hasImage;
    private final Log log = new Log();
    private final Log imagedLog = new Log();
    private final History history = new History();
    private final Acts acts = new Acts();
    private final Clockwork clockwork = acts.clockwork;
    private final Planner planner = acts.planner;
    private final Step wish = new Step();
    private final int[] refusals = new int[TOO_MUCH + 1];
    private long drawn;

    public SpeedDesk() {
    }

    public int feed(int a, int b, int c, int d, int e) {
        int more = Tape.bytesOf(a) + Tape.bytesOf(b) + Tape.bytesOf(c) + Tape.bytesOf(d) + Tape.bytesOf(e);
        if (tape.length + more > MOST_BYTES) {
            return NONE;
        }
        tape.append(a);
        tape.append(b);
        tape.append(c);
        tape.append(d);
        tape.append(e);
        return tape.length;
    }

    public boolean end(int n) {
        if (n < 0 || n > tape.length) {
            return false;
        }
        tape.length = n;
        return true;
    }

    public int fault(int sort) {
        switch (sort) {
            case 0:
                return texts.readChip(draft);
            case 1:
                return texts.readScript(spareScript());
            case 2:
                texts.readAsker();
                return tape.fault;
            default:
                return -2;
        }
    }

    public int text(int sort) {
        if (sort == 0) {
            return texts.readChip(draft) == NONE ? takeDraft() : NONE;
        }
        if (sort != 1 || scriptCount >= MOST_SCRIPTS) {
            return NONE;
        }
        return texts.readScript(spareScript()) == NONE ? takeSpareScript() : NONE;
    }

    public int rule(int what) {
        if (!chip.isTold() || what < 0 || what > RULES + 1) {
            return NONE;
        }
        if (what < RULES) {
            return chip.rules[what];
        }
        return what == RULES ? chip.top : chip.cores;
    }

    public int cluster(int cluster, int what) throws NoSuchElementException {
        if (!chip.hasCluster(cluster) || what < 0 || what > 10) {
            throw new NoSuchElementException();
        }
        return what <= 3 ? chip.clusterFact(cluster, what) : clusterNow(cluster, what);
    }

    public int point(int cluster, int point, int what) {
        if (!chip.hasPoint(cluster, point) || what < 0 || what > 1) {
            return NONE;
        }
        return what == 0 ? chip.speed[cluster][point] : chip.cost[cluster][point];
    }

    public int core(int core, int what) {
        if (!chip.hasCore(core)) {
            return HIDDEN;
        }
        switch (what) {
            case 0:
                return chip.clusterOf[core];
            case 1:
                return bitOf(state.sleepingCores, core);
            case 2:
                return state.idled[core];
            case 3:
                return tasksOn(core);
            case 4:
                return clockwork.speedOf(chip, state, chip.clusterOf[core]) - sharesOn(core);
            default:
                return HIDDEN;
        }
    }

    public int task(int task, int what) {
        if (!chip.hasTask(task)) {
            return NONE;
        }
        switch (what) {
            case 0:
                return chip.work[task];
            case 1:
                return chip.period[task];
            case 2:
                return state.coreOf[task];
            case 3:
                return state.rest[task];
            case 4:
                return state.load[task];
            case 5:
                return state.late[task];
            case 6:
                return bitOf(state.stoppedTasks, task);
            case 7:
                return shareOf(task);
            default:
                return NONE;
        }
    }

    public int name(int sort, int number, int i) {
        if (sort == 0 && chip.hasCluster(number)) {
            return letterOf(chip.clusterNames[number], i);
        }
        if (sort == 1 && chip.hasTask(number)) {
            return letterOf(chip.taskNames[number], i);
        }
        if (sort == 2 && state.hasAsk(number)) {
            return letterOf(state.asker[number], i);
        }
        return NONE;
    }

    public int asked(int k, int what) {
        if (!state.hasAsk(k)) {
            return NONE;
        }
        switch (what) {
            case 0:
                return state.askedCluster[k];
            case 1:
                return state.askedLow[k];
            case 2:
                return state.askedHigh[k];
            default:
                return NONE;
        }
    }

    public int tick(int n) {
        wish.put(TICK, n, 0, 0, 0L);
        return doOrRefuse(wish);
    }

    public int move(int task, int core) {
        wish.put(MOVE, task, core, 0, 0L);
        return doOrRefuse(wish);
    }

    public int ask(int cluster, int low, int high) {
        wish.put(ASK, cluster, low, high, texts.readAsker());
        return useUpTapeFor(doOrRefuse(wish));
    }

    public int drop(int cluster) {
        wish.put(DROP, cluster, 0, 0, texts.readAsker());
        return useUpTapeFor(doOrRefuse(wish));
    }

    public int stop(int task) {
        wish.put(STOP, task, 0, 0, 0L);
        return doOrRefuse(wish);
    }

    public int start(int task) {
        wish.put(START, task, 0, 0, 0L);
        return doOrRefuse(wish);
    }

    public int settle() {
        wish.put(SETTLE, 0, 0, 0, 0L);
        return doOrRefuse(wish);
    }

    public int years(int n, long seed) {
        if (!chip.isTold() || n < 1 || n > MOST_YEARS) {
            return NONE;
        }
        drawn = seed;
        for (int i = 0; i < n; i++) {
            doOneYear();
        }
        return state.time;
    }

    public int status(int what) {
        return what >= 0 && what < refusals.length ? refusals[what] : NONE;
    }

    public int undo() {
        return history.giveBack(state) ? history.held : NONE;
    }

    public int log(int i, int what) {
        if (i < 0 || i >= logLength()) {
            return HIDDEN;
        }
        return log.read(state.logged - 1 - i, what);
    }

    public int price() {
        return chip.isTold() ? planner.priceAsItIs(chip, state) : NONE;
    }

    public int best(int what, int task) {
        if (!chip.isTold() || !planner.findBest(chip, state)) {
            return NONE;
        }
        if (what == 0) {
            return planner.bestPrice;
        }
        return what == 1 && chip.hasTask(task) ? planner.best[task] : NONE;
    }

    public int greedy(int what, int task) {
        if (!chip.isTold() || !planner.putGreedily(chip, state)) {
            return NONE;
        }
        if (what == 0) {
            return planner.priceOf(chip);
        }
        return what == 1 && chip.hasTask(task) ? planner.way[task] : NONE;
    }

    public int moves() {
        return chip.isTold() ? planner.fewestMoves(chip, state) : NONE;
    }

    public int race(int cluster, int w, int n, int what) {
        boolean within = w >= 1 && w <= MOST_RACE_WORK && n >= 1 && n <= MOST_RACE_TICKS;
        if (!chip.hasCluster(cluster) || !within || what < 0 || what > 2) {
            return HIDDEN;
        }
        int racing = chip.racingCost(cluster, w, n);
        int slow = chip.slowCost(cluster, w, n);
        if (what == 0) {
            return racing;
        }
        if (what == 1) {
            return slow;
        }
        if (racing == NONE || slow == NONE) {
            return NONE;
        }
        return slow < racing ? 1 : 0;
    }

    public int ahead(int n, int what) {
        boolean within = n >= 0 && n <= MOST_AHEAD && what >= 0 && what <= 5;
        if (!chip.isTold() || !within || state.time + n > LAST_TIME) {
            return NONE;
        }
        if (what >= 3 && !chip.hasCluster(what - 3)) {
            return NONE;
        }
        trial.copyFrom(state);
        clockwork.passMany(chip, trial, n);
        switch (what) {
            case 0:
                return trial.energy;
            case 1:
                return trial.lateOfAll(chip);
            case 2:
                return trial.heat;
            default:
                return trial.point[what - 3];
        }
    }

    public int bound(int cluster, int n) {
        if (!chip.hasCluster(cluster) || n < 1 || n > MOST_BOUND || state.time + n > LAST_TIME) {
            return NONE;
        }
        for (int high = 0; high < chip.points[cluster]; high++) {
            trial.copyFrom(state);
            trial.tell(0L, cluster, 0, high);
            clockwork.passMany(chip, trial, n);
            if (trial.isNoLater(chip, state)) {
                return high;
            }
        }
        return NONE;
    }

    public int odds(int chance) {
        return chip.isTold() && chance >= 0 && chance <= 100 ? planner.oddsBy(chip, state, chance) : NONE;
    }

    public int step(int script, int i, int what) {
        if (script < 0 || script >= scriptCount || i < 0 || i >= scripts[script].length) {
            return HIDDEN;
        }
        Step step = scripts[script].steps[i];
        if (what == 0) {
            return step.sort;
        }
        if (what < 1 || what > step.numbers.length) {
            return HIDDEN;
        }
        return what <= step.numbersTold() ? step.numbers[what - 1] : NONE;
    }

    public int run(int script, int what) {
        if (!chip.isTold() || script < 0 || script >= scriptCount || what < 0 || what > 1) {
            return HIDDEN;
        }
        trial.copyFrom(state);
        int done = runOnTrial(scripts[script]);
        if (what == 1) {
            return trial.energy;
        }
        return done == scripts[script].length ? NONE : done;
    }

    public int perform(int script) {
        if (!chip.isTold() || script < 0 || script >= scriptCount) {
            return NONE;
        }
        Script told = scripts[script];
        for (int i = 0; i < told.length; i++) {
            if (acts.refusalOf(chip, state, told.steps[i]) != NONE) {
                return i;
            }
            doAct(told.steps[i]);
        }
        return told.length;
    }

    public int all(int what) {
        if (!chip.isTold()) {
            return HIDDEN;
        }
        switch (what) {
            case 0:
                return state.time;
            case 1:
                return state.heat;
            case 2:
                return state.energy;
            case 3:
                return state.lateOfAll(chip);
            case 4:
                return state.sleepingCores;
            case 5:
                return state.stoppedTasks;
            case 6:
                return state.tasksWithRest(chip);
            case 7:
                return state.mostLoaded(chip);
            case 8:
                return fullestCore();
            case 9:
                return sharesOfAll();
            default:
                return HIDDEN;
        }
    }

    public int image() {
        if (!chip.isTold()) {
            return NONE;
        }
        imaged.copyFrom(state);
        imagedLog.copyFrom(log);
        hasImage = true;
        return state.time;
    }

    public int back() {
        if (!hasImage) {
            return NONE;
        }
        state.copyFrom(imaged);
        log.copyFrom(imagedLog);
        history.forget();
        return state.time;
    }

    public int count(int what) {
        switch (what) {
            case 0:
                return chip.clusters;
            case 1:
                return scriptCount;
            case 2:
                return tape.length;
            case 3:
                return logLength();
            case 4:
                return history.held;
            case 5:
                return chip.tasks;
            case 6:
                return state.asks;
            default:
                return HIDDEN;
        }
    }

    /** One more than may be told: a text is read into the first row that no script has. */
    private static Script[] newScripts() {
        Script[] rows = new Script[MOST_SCRIPTS + 1];
        for (int i = 0; i < rows.length; i++) {
            rows[i] = new Script();
        }
        return rows;
    }

    private Script spareScript() {
        return scripts[Math.min(scriptCount, MOST_SCRIPTS)];
    }

    private int takeDraft() {
        Chip old = chip;
        chip = draft;
        draft = old;
        state.begin();
        history.forget();
        hasImage = false;
        tape.length = 0;
        return chip.clusters;
    }

    private int takeSpareScript() {
        tape.length = 0;
        scriptCount++;
        return scriptCount - 1;
    }

    private int clusterNow(int cluster, int what) {
        switch (what) {
            case 4:
                return state.point[cluster];
            case 5:
                return state.held[cluster];
            case 6:
                return state.boost[cluster];
            case 7:
                return state.lowOf(cluster);
            case 8:
                return state.highOf(chip, cluster);
            case 9:
                return clockwork.needOf(chip, state, cluster);
            default:
                return clockwork.wantOf(chip, state, cluster);
        }
    }

    private int tasksOn(int core) {
        int bits = 0;
        for (int task = 0; task < chip.tasks; task++) {
            bits = withBit(bits, task, state.coreOf[task] == core);
        }
        return bits;
    }

    private int shareOf(int task) {
        return state.isStopped(task) ? 0 : chip.shareOf(task);
    }

    private int sharesOn(int core) {
        int sum = 0;
        for (int task = 0; task < chip.tasks; task++) {
            sum += state.coreOf[task] == core ? shareOf(task) : 0;
        }
        return sum;
    }

    private int sharesOfAll() {
        int sum = 0;
        for (int task = 0; task < chip.tasks; task++) {
            sum += shareOf(task);
        }
        return sum;
    }

    private int fullestCore() {
        int fullest = 0;
        for (int core = 1; core < chip.cores; core++) {
            if (sharesOn(core) > sharesOn(fullest)) {
                fullest = core;
            }
        }
        return fullest;
    }

    private int logLength() {
        return Math.min(state.logged, LOG_LENGTH);
    }

    private int doOrRefuse(Step step) {
        int refusal = acts.refusalOf(chip, state, step);
        if (refusal == NONE) {
            return doAct(step);
        }
        if (refusal >= 0 && refusal < refusals.length) {
            refusals[refusal]++;
        }
        return NONE;
    }

    /** The tape told the asker, so it is used up if the act was done. */
    private int useUpTapeFor(int answer) {
        if (answer != NONE) {
            tape.length = 0;
        }
        return answer;
    }

    private int doAct(Step step) {
        history.keep(state);
        int answer = acts.carryOut(chip, state, step);
        log.write(state.logged, step.sort, step.sort == SETTLE ? answer : step.numbers[0], state.time);
        state.logged++;
        return answer;
    }

    private void doOneYear() {
        int what = draw(8);
        if (what <= 3) {
            wish.put(TICK, draw(5) + 1, 0, 0, 0L);
        } else if (what == 7) {
            wish.put(SETTLE, 0, 0, 0, 0L);
        } else if (chip.tasks == 0) {
            return;
        } else {
            drawTaskAct(what);
        }
        if (acts.refusalOf(chip, state, wish) == NONE) {
            doAct(wish);
        }
    }

    private void drawTaskAct(int what) {
        int task = draw(chip.tasks);
        if (what == 6) {
            wish.put(state.isStopped(task) ? START : STOP, task, 0, 0, 0L);
        } else {
            wish.put(MOVE, task, draw(chip.cores), 0, 0L);
        }
    }

    private int draw(int below) {
        drawn = drawn * 6364136223846793005L + 1442695040888963407L;
        return below < 1 ? 0 : (int) ((drawn >>> 33) % below);
    }

    private int runOnTrial(Script script) {
        for (int i = 0; i < script.length; i++) {
            if (acts.refusalOf(chip, trial, script.steps[i]) != NONE) {
                return i;
            }
            acts.carryOut(chip, trial, script.steps[i]);
        }
        return script.length;
    }

    /** A name is kept in a long, its last letter lowest; no letter is 0. */
    private static int letterOf(long name, int i) {
        int letters = 0;
        for (int shift = 0; shift < 8 * MOST_LETTERS; shift += 8) {
            if (((name >>> shift) & 255L) != 0L) {
                letters++;
            }
        }
        if (i < 0 || i >= letters) {
            return NONE;
        }
        return (int) ((name >>> (8 * (letters - 1 - i))) & 255L);
    }

    private static int bitOf(int bits, int i) {
        return i < 0 || i > 31 ? 0 : (bits >>> i) & 1;
    }

    private static int withBit(int bits, int i, boolean on) {
        if (i < 0 || i > 31) {
            return bits;
        }
        return on ? bits | (1 << i) : bits & ~(1 << i);
    }

    /** The whole number that is no less; both are small and not below 0. */
    private static int roundedUp(int part, int by) {
        return by < 1 ? 0 : (part + by - 1) / by;
    }

    private static int cut(int part, int by) {
        return by < 1 ? 0 : part / by;
    }

    /** The bytes fed, and a place among them from which parts are read; the first fault stands. */
    private static final class Tape {
        private static final int BLANK = 32;
        private static final int SEMICOLON = 59;

        final int[] bytes = new int[MOST_BYTES];
        int length;
        int at;
        int part;
        int fault = NONE;

        static int bytesOf(int number) {
            int found = 0;
            for (int shift = 24; shift >= 0; shift -= 8) {
                if (((number >>> shift) & 255) != 0) {
                    found++;
                }
            }
            return found;
        }

        void append(int number) {
            for (int shift = 24; shift >= 0; shift -= 8) {
                int value = (number >>> shift) & 255;
                if (value != 0 && length < MOST_BYTES) {
                    bytes[length] = value;
                    length++;
                }
            }
        }

        void rewind() {
            at = 0;
            part = 0;
            fault = NONE;
        }

        void refuse(int place) {
            if (fault == NONE) {
                fault = place;
            }
        }

        void refusePart() {
            refuse(part);
        }

        boolean isSound() {
            return fault == NONE;
        }

        long readWord() {
            goToNextPart();
            long word = 0L;
            while (at < length && bytes[at] >= 'a' && bytes[at] <= 'z') {
                word = (word << 8) | bytes[at];
                at++;
            }
            if (at == part || at - part > MOST_LETTERS) {
                refusePart();
                return 0L;
            }
            return word;
        }

        int readNumber(int least, int most) {
            goToNextPart();
            int value = 0;
            while (at < length && bytes[at] >= '0' && bytes[at] <= '9') {
                // more digits than any bound has must not go round
                value = Math.min(value * 10 + bytes[at] - '0', 1000000);
                at++;
            }
            if (at == part || value < least || value > most) {
                refusePart();
            }
            return value;
        }

        /** Whether a semicolon follows; a fault, if neither it nor the end does. */
        boolean readSemicolon() {
            goToNextPart();
            if (at >= length) {
                return false;
            }
            if (bytes[at] != SEMICOLON) {
                refusePart();
                return false;
            }
            at++;
            return true;
        }

        private void goToNextPart() {
            while (at < length && bytes[at] == BLANK) {
                at++;
            }
            part = at;
        }
    }

    /** Reads the tape as a chip, a script or an asker; each answers the fault or NONE. */
    private static final class Texts {
        private static final int CLUSTER_WORD = 0;
        private static final int POINT_WORD = 1;
        private static final int TASK_WORD = 2;
        private static final int FIRST_RULE_WORD = 3;
        private static final int FIRST_STEP_WORD = 9;
        private static final int WORDS = 16;

        final Tape tape = new Tape();

        int readChip(Chip draft) {
            tape.rewind();
            draft.begin();
            boolean more = true;
            for (int i = 0; more && i <= MOST_BYTES; i++) {
                readLine(draft);
                more = tape.isSound() && tape.readSemicolon();
            }
            if (!draft.isWhole()) {
                tape.refuse(tape.length);
            }
            return tape.fault;
        }

        int readScript(Script draft) {
            tape.rewind();
            draft.length = 0;
            boolean more = true;
            for (int i = 0; more && i < MOST_STEPS; i++) {
                readStep(draft.steps[i]);
                draft.length = i + 1;
                more = tape.isSound() && tape.readSemicolon();
            }
            if (more) {
                tape.refusePart();
            }
            return tape.fault;
        }

        /** The word, 0 if there is a fault. */
        long readAsker() {
            tape.rewind();
            long word = tape.readWord();
            if (tape.isSound() && tape.readSemicolon()) {
                tape.refusePart();
            }
            return tape.isSound() ? word : 0L;
        }

        private void readLine(Chip draft) {
            int word = wordNumber(tape.readWord());
            if (word == CLUSTER_WORD) {
                readCluster(draft);
            } else if (word == POINT_WORD) {
                readPoint(draft);
            } else if (word == TASK_WORD) {
                readTask(draft);
            } else if (word >= FIRST_RULE_WORD && word < FIRST_RULE_WORD + RULES) {
                readRule(draft, word - FIRST_RULE_WORD);
            } else {
                tape.refusePart();
            }
        }

        private void readCluster(Chip draft) {
            if (draft.clusters >= MOST_CLUSTERS) {
                tape.refusePart();
                return;
            }
            long name = readNewName(draft);
            int cores = tape.readNumber(1, Math.min(MOST_CLUSTER_CORES, MOST_CORES - draft.cores));
            int idle = tape.readNumber(0, 99);
            int wake = tape.readNumber(0, 99);
            if (tape.isSound()) {
                draft.addCluster(name, cores, idle, wake);
            }
        }

        private void readPoint(Chip draft) {
            int cluster = draft.clusterNamed(tape.readWord());
            if (!draft.hasCluster(cluster) || draft.points[cluster] >= MOST_POINTS) {
                tape.refusePart();
                return;
            }
            int speed = tape.readNumber(draft.lastSpeed(cluster) + 1, 99);
            int cost = tape.readNumber(1, 99);
            if (tape.isSound()) {
                draft.addPoint(cluster, speed, cost);
            }
        }

        private void readTask(Chip draft) {
            if (draft.tasks >= MOST_TASKS) {
                tape.refusePart();
                return;
            }
            long name = readNewName(draft);
            int work = tape.readNumber(1, 999);
            int period = tape.readNumber(1, 20);
            if (tape.isSound()) {
                draft.addTask(name, work, period);
            }
        }

        private void readRule(Chip draft, int rule) {
            if (bitOf(draft.rulesTold, rule) == 1) {
                tape.refusePart();
                return;
            }
            int value = tape.readNumber(RULE_LEAST[rule], RULE_MOST[rule]);
            draft.rulesTold = withBit(draft.rulesTold, rule, true);
            draft.rules[rule] = value;
        }

        private long readNewName(Chip draft) {
            long name = tape.readWord();
            if (wordNumber(name) != NONE || draft.hasName(name)) {
                tape.refusePart();
            }
            return name;
        }

        private void readStep(Step step) {
            int sort = wordNumber(tape.readWord()) - FIRST_STEP_WORD;
            if (sort < TICK || sort > SETTLE) {
                tape.refusePart();
                return;
            }
            step.put(sort, 0, 0, 0, sort == ASK || sort == DROP ? tape.readWord() : 0L);
            int count = step.numbersTold();
            for (int i = 0; i < count && i < step.numbers.length; i++) {
                step.numbers[i] = sort == TICK ? tape.readNumber(1, MOST_TICKS) : tape.readNumber(0, 9);
            }
        }

        /** Which of the document's words it is, NONE if it is another. */
        private static int wordNumber(long word) {
            for (int i = 0; i < WORDS; i++) {
                if (packed(wordText(i)) == word) {
                    return i;
                }
            }
            return NONE;
        }

        private static long packed(String letters) {
            long word = 0L;
            for (int i = 0; i < letters.length(); i++) {
                word = (word << 8) | letters.charAt(i);
            }
            return word;
        }

        /** The rules' words and the steps' words stand in the order of their numbers. */
        private static String wordText(int i) {
            switch (i) {
                case 0: return "cluster";
                case 1: return "point";
                case 2: return "task";
                case 3: return "margin";
                case 4: return "hold";
                case 5: return "sleep";
                case 6: return "boost";
                case 7: return "limit";
                case 8: return "cool";
                case 9: return "tick";
                case 10: return "move";
                case 11: return "ask";
                case 12: return "drop";
                case 13: return "stop";
                case 14: return "start";
                default: return "settle";
            }
        }
    }

    /** What a chip's text tells; no clusters: there is no chip. */
    private static final class Chip {
        int clusters;
        int tasks;
        int cores;
        int top;
        int rulesTold;
        final long[] clusterNames = new long[MOST_CLUSTERS];
        final int[] coreCount = new int[MOST_CLUSTERS];
        final int[] idle = new int[MOST_CLUSTERS];
        final int[] wake = new int[MOST_CLUSTERS];
        final int[] points = new int[MOST_CLUSTERS];
        final int[][] speed = new int[MOST_CLUSTERS][MOST_POINTS];
        final int[][] cost = new int[MOST_CLUSTERS][MOST_POINTS];
        final int[] clusterOf = new int[MOST_CORES];
        final long[] taskNames = new long[MOST_TASKS];
        final int[] work = new int[MOST_TASKS];
        final int[] period = new int[MOST_TASKS];
        final int[] rules = new int[RULES];

        void begin() {
            clusters = 0;
            tasks = 0;
            cores = 0;
            top = 0;
            rulesTold = 0;
            System.arraycopy(RULE_UNTOLD, 0, rules, 0, RULES);
        }

        void addCluster(long name, int coresTold, int idleTold, int wakeTold) {
            if (clusters >= MOST_CLUSTERS || cores + coresTold > MOST_CORES) {
                return;
            }
            clusterNames[clusters] = name;
            coreCount[clusters] = coresTold;
            idle[clusters] = idleTold;
            wake[clusters] = wakeTold;
            points[clusters] = 0;
            for (int i = 0; i < coresTold; i++) {
                clusterOf[cores + i] = clusters;
            }
            cores += coresTold;
            clusters++;
        }

        void addPoint(int cluster, int speedTold, int costTold) {
            int point = hasCluster(cluster) ? points[cluster] : MOST_POINTS;
            if (point >= MOST_POINTS) {
                return;
            }
            speed[cluster][point] = speedTold;
            cost[cluster][point] = costTold;
            points[cluster] = point + 1;
            top = Math.max(top, speedTold);
        }

        void addTask(long name, int workTold, int periodTold) {
            if (tasks >= MOST_TASKS) {
                return;
            }
            taskNames[tasks] = name;
            work[tasks] = workTold;
            period[tasks] = periodTold;
            tasks++;
        }

        boolean isTold() {
            return clusters > 0;
        }

        boolean isWhole() {
            for (int cluster = 0; cluster < clusters; cluster++) {
                if (points[cluster] == 0) {
                    return false;
                }
            }
            return clusters > 0;
        }

        boolean hasCluster(int cluster) {
            return cluster >= 0 && cluster < clusters;
        }

        boolean hasPoint(int cluster, int point) {
            return cluster >= 0 && cluster < clusters && point >= 0 && point < points[cluster];
        }

        boolean hasCore(int core) {
            return core >= 0 && core < cores;
        }

        boolean hasTask(int task) {
            return task >= 0 && task < tasks;
        }

        boolean hasName(long name) {
            for (int task = 0; task < tasks; task++) {
                if (taskNames[task] == name) {
                    return true;
                }
            }
            return clusterNamed(name) != NONE;
        }

        int clusterNamed(long name) {
            for (int cluster = 0; cluster < clusters; cluster++) {
                if (clusterNames[cluster] == name) {
                    return cluster;
                }
            }
            return NONE;
        }

        int lastSpeed(int cluster) {
            int last = hasCluster(cluster) ? points[cluster] - 1 : NONE;
            return hasPoint(cluster, last) ? speed[cluster][last] : 0;
        }

        int clusterFact(int cluster, int what) {
            if (!hasCluster(cluster)) {
                return NONE;
            }
            switch (what) {
                case 0:
                    return coreCount[cluster];
                case 1:
                    return idle[cluster];
                case 2:
                    return wake[cluster];
                default:
                    return points[cluster];
            }
        }

        /** As if it were not stopped. */
        int shareOf(int task) {
            return hasTask(task) ? roundedUp(work[task], period[task]) : 0;
        }

        /** The first point that is so fast, NONE if none is. */
        int firstPointFor(int cluster, int needed) {
            int count = cluster >= 0 && cluster < clusters ? points[cluster] : 0;
            for (int point = 0; point < count; point++) {
                if (speed[cluster][point] >= needed) {
                    return point;
                }
            }
            return NONE;
        }

        int racingCost(int cluster, int amount, int ticks) {
            int last = hasCluster(cluster) ? points[cluster] - 1 : NONE;
            if (!hasPoint(cluster, last)) {
                return NONE;
            }
            int taken = roundedUp(amount, speed[cluster][last]);
            if (taken > ticks) {
                return NONE;
            }
            return cost[cluster][last] * amount + idle[cluster] * Math.min(ticks, taken + rules[SLEEP]);
        }

        int slowCost(int cluster, int amount, int ticks) {
            int point = firstPointFor(cluster, roundedUp(amount, ticks));
            return point == NONE ? NONE : cost[cluster][point] * amount + idle[cluster] * ticks;
        }
    }

    /** An act told: its sort, its numbers, and who asks. */
    private static final class Step {
        private static final int[] NUMBERS_TOLD = {1, 2, 3, 1, 1, 1, 0};

        final int[] numbers = new int[3];
        int sort;
        long asker;

        void put(int newSort, int a, int b, int c, long newAsker) {
            sort = newSort;
            numbers[0] = a;
            numbers[1] = b;
            numbers[2] = c;
            asker = newAsker;
        }

        int numbersTold() {
            return sort >= 0 && sort < NUMBERS_TOLD.length ? NUMBERS_TOLD[sort] : 0;
        }
    }

    private static final class Script {
        final Step[] steps = new Step[MOST_STEPS];
        int length;

        Script() {
            for (int i = 0; i < steps.length; i++) {
                steps[i] = new Step();
            }
        }
    }

    /** All that acts change; of the log how many records there were ever. */
    private static final class State {
        int time;
        int heat;
        int energy;
        int logged;
        int asks;
        int stoppedTasks;
        int sleepingCores;
        final int[] coreOf = new int[MOST_TASKS];
        final int[] rest = new int[MOST_TASKS];
        final int[] load = new int[MOST_TASKS];
        final int[] late = new int[MOST_TASKS];
        final int[] point = new int[MOST_CLUSTERS];
        final int[] held = new int[MOST_CLUSTERS];
        final int[] boost = new int[MOST_CLUSTERS];
        final int[] idled = new int[MOST_CORES];
        // one more than may ask: bound asks in a trial whoever else asks
        final long[] asker = new long[MOST_ASKS + 1];
        final int[] askedCluster = new int[MOST_ASKS + 1];
        final int[] askedLow = new int[MOST_ASKS + 1];
        final int[] askedHigh = new int[MOST_ASKS + 1];

        void begin() {
            time = 0;
            heat = 0;
            energy = 0;
            logged = 0;
            asks = 0;
            stoppedTasks = 0;
            sleepingCores = 0;
            for (int task = 0; task < MOST_TASKS; task++) {
                coreOf[task] = 0;
                rest[task] = 0;
                load[task] = 0;
                late[task] = 0;
            }
            for (int cluster = 0; cluster < MOST_CLUSTERS; cluster++) {
                point[cluster] = 0;
                held[cluster] = 0;
                boost[cluster] = 0;
            }
            for (int core = 0; core < MOST_CORES; core++) {
                idled[core] = 0;
            }
        }

        void copyFrom(State other) {
            time = other.time;
            heat = other.heat;
            energy = other.energy;
            logged = other.logged;
            asks = other.asks;
            stoppedTasks = other.stoppedTasks;
            sleepingCores = other.sleepingCores;
            System.arraycopy(other.coreOf, 0, coreOf, 0, MOST_TASKS);
            System.arraycopy(other.rest, 0, rest, 0, MOST_TASKS);
            System.arraycopy(other.load, 0, load, 0, MOST_TASKS);
            System.arraycopy(other.late, 0, late, 0, MOST_TASKS);
            System.arraycopy(other.point, 0, point, 0, MOST_CLUSTERS);
            System.arraycopy(other.held, 0, held, 0, MOST_CLUSTERS);
            System.arraycopy(other.boost, 0, boost, 0, MOST_CLUSTERS);
            System.arraycopy(other.idled, 0, idled, 0, MOST_CORES);
            System.arraycopy(other.asker, 0, asker, 0, MOST_ASKS + 1);
            System.arraycopy(other.askedCluster, 0, askedCluster, 0, MOST_ASKS + 1);
            System.arraycopy(other.askedLow, 0, askedLow, 0, MOST_ASKS + 1);
            System.arraycopy(other.askedHigh, 0, askedHigh, 0, MOST_ASKS + 1);
        }

        boolean isStopped(int task) {
            return bitOf(stoppedTasks, task) == 1;
        }

        boolean isAsleep(int core) {
            return bitOf(sleepingCores, core) == 1;
        }

        boolean hasAsk(int k) {
            return k >= 0 && k < asks;
        }

        int askOf(long name, int cluster) {
            for (int k = 0; k < asks; k++) {
                if (asker[k] == name && askedCluster[k] == cluster) {
                    return k;
                }
            }
            return NONE;
        }

        /** Which ask it is; NONE if there is no room for one more. */
        int tell(long name, int cluster, int low, int high) {
            int k = askOf(name, cluster);
            if (k == NONE) {
                if (asks >= asker.length) {
                    return NONE;
                }
                k = asks;
                asks++;
            }
            asker[k] = name;
            askedCluster[k] = cluster;
            askedLow[k] = low;
            askedHigh[k] = high;
            return k;
        }

        void forgetAsk(int gone) {
            if (!hasAsk(gone)) {
                return;
            }
            asks--;
            for (int k = gone; k < asks; k++) {
                asker[k] = asker[k + 1];
                askedCluster[k] = askedCluster[k + 1];
                askedLow[k] = askedLow[k + 1];
                askedHigh[k] = askedHigh[k + 1];
            }
        }

        int lowOf(int cluster) {
            int low = 0;
            for (int k = 0; k < asks; k++) {
                if (askedCluster[k] == cluster) {
                    low = Math.max(low, askedLow[k]);
                }
            }
            return low;
        }

        int highOf(Chip chip, int cluster) {
            int high = chip.hasCluster(cluster) ? chip.points[cluster] - 1 : 0;
            for (int k = 0; k < asks; k++) {
                if (askedCluster[k] == cluster) {
                    high = Math.min(high, askedHigh[k]);
                }
            }
            return high;
        }

        int lateOfAll(Chip chip) {
            int sum = 0;
            for (int task = 0; task < chip.tasks; task++) {
                sum += late[task];
            }
            return sum;
        }

        boolean isNoLater(Chip chip, State before) {
            for (int task = 0; task < chip.tasks; task++) {
                if (late[task] > before.late[task]) {
                    return false;
                }
            }
            return true;
        }

        int tasksWithRest(Chip chip) {
            int bits = 0;
            for (int task = 0; task < chip.tasks; task++) {
                bits = withBit(bits, task, rest[task] > 0);
            }
            return bits;
        }

        int mostLoaded(Chip chip) {
            int most = NONE;
            for (int task = 0; task < chip.tasks; task++) {
                if (most == NONE || load[task] > load[most]) {
                    most = task;
                }
            }
            return most;
        }
    }

    /** The records of acts, by number; the later ones of a like number go over the earlier. */
    private static final class Log {
        final int[] sorts = new int[LOG_KEPT];
        final int[] numbers = new int[LOG_KEPT];
        final int[] times = new int[LOG_KEPT];

        void write(int record, int sort, int number, int time) {
            int row = Math.floorMod(record, LOG_KEPT);
            sorts[row] = sort;
            numbers[row] = number;
            times[row] = time;
        }

        int read(int record, int what) {
            int row = Math.floorMod(record, LOG_KEPT);
            switch (what) {
                case 0:
                    return sorts[row];
                case 1:
                    return numbers[row];
                case 2:
                    return times[row];
                default:
                    return HIDDEN;
            }
        }

        void copyFrom(Log other) {
            System.arraycopy(other.sorts, 0, sorts, 0, LOG_KEPT);
            System.arraycopy(other.numbers, 0, numbers, 0, LOG_KEPT);
            System.arraycopy(other.times, 0, times, 0, LOG_KEPT);
        }
    }

    /** The states ahead of the latest acts, in a ring. */
    private static final class History {
        final State[] rows = new State[MOST_UNDONE];
        int next;
        int held;

        History() {
            for (int i = 0; i < rows.length; i++) {
                rows[i] = new State();
            }
        }

        void keep(State state) {
            rows[next].copyFrom(state);
            next = next + 1 < MOST_UNDONE ? next + 1 : 0;
            held = Math.min(held + 1, MOST_UNDONE);
        }

        /** False if there is none. */
        boolean giveBack(State state) {
            if (held == 0) {
                return false;
            }
            next = next > 0 ? next - 1 : MOST_UNDONE - 1;
            held--;
            state.copyFrom(rows[next]);
            return true;
        }

        void forget() {
            held = 0;
        }
    }

    /** Lets ticks go by. */
    private static final class Clockwork {
        private final int[] done = new int[MOST_TASKS];

        /** The energy used. */
        int passMany(Chip chip, State state, int ticks) {
            int energyBefore = state.energy;
            for (int i = 0; i < ticks; i++) {
                release(chip, state);
                int used = wakeCores(chip, state);
                for (int cluster = 0; cluster < chip.clusters; cluster++) {
                    goTowards(chip, state, cluster, wantOf(chip, state, cluster));
                }
                for (int core = 0; core < chip.cores; core++) {
                    used += work(chip, state, core);
                }
                fadeLoads(chip, state);
                state.heat += used - cut(state.heat, chip.rules[COOL]);
                state.energy += used;
                state.time++;
            }
            return state.energy - energyBefore;
        }

        int needOf(Chip chip, State state, int cluster) {
            int greatest = 0;
            for (int core = 0; core < chip.cores; core++) {
                int sum = 0;
                for (int task = 0; task < chip.tasks; task++) {
                    sum += state.coreOf[task] == core ? state.load[task] : 0;
                }
                greatest = chip.clusterOf[core] == cluster ? Math.max(greatest, sum) : greatest;
            }
            return roundedUp(greatest * chip.top * (100 + chip.rules[MARGIN]), 100 * LOAD_UNIT);
        }

        int wantOf(Chip chip, State state, int cluster) {
            if (!chip.hasCluster(cluster)) {
                return NONE;
            }
            int first = chip.firstPointFor(cluster, needOf(chip, state, cluster));
            return first == NONE || state.boost[cluster] > 0 ? chip.points[cluster] - 1 : first;
        }

        int speedOf(Chip chip, State state, int cluster) {
            int point = chip.hasCluster(cluster) ? state.point[cluster] : NONE;
            return chip.hasPoint(cluster, point) ? chip.speed[cluster][point] : 0;
        }

        private void release(Chip chip, State state) {
            for (int task = 0; task < chip.tasks; task++) {
                done[task] = 0;
                if (!state.isStopped(task) && ticksLeft(chip, state, task) == chip.period[task]) {
                    state.late[task] += state.rest[task] > 0 ? 1 : 0;
                    state.rest[task] = chip.work[task];
                }
            }
        }

        /** Until its period divides the time again: 1 to its period. */
        private int ticksLeft(Chip chip, State state, int task) {
            int period = chip.period[task];
            return period < 1 ? 0 : period - state.time % period;
        }

        private int wakeCores(Chip chip, State state) {
            int used = 0;
            for (int task = 0; task < chip.tasks; task++) {
                int core = state.coreOf[task];
                if (state.rest[task] > 0 && chip.hasCore(core) && state.isAsleep(core)) {
                    state.sleepingCores = withBit(state.sleepingCores, core, false);
                    used += wakeCluster(chip, state, chip.clusterOf[core]);
                }
            }
            return used;
        }

        private int wakeCluster(Chip chip, State state, int cluster) {
            if (!chip.hasCluster(cluster)) {
                return 0;
            }
            state.boost[cluster] = chip.rules[BOOST];
            return chip.wake[cluster];
        }

        private void goTowards(Chip chip, State state, int cluster, int want) {
            int point = state.point[cluster];
            if (want > point) {
                point = want;
                state.held[cluster] = 0;
            } else if (want < point && state.held[cluster] >= chip.rules[HOLD]) {
                point--;
                state.held[cluster] = 0;
            } else {
                state.held[cluster]++;
            }
            point = Math.max(point, state.lowOf(cluster));
            point = Math.min(point, state.highOf(chip, cluster));
            if (state.heat > chip.rules[LIMIT]) {
                point--;
            }
            state.point[cluster] = Math.max(point, 0);
            state.boost[cluster] = Math.max(state.boost[cluster] - 1, 0);
        }

        /** The energy that the core uses. */
        private int work(Chip chip, State state, int core) {
            int cluster = chip.clusterOf[core];
            int speed = speedOf(chip, state, cluster);
            int left = speed;
            for (int turn = 0; turn < chip.tasks && left > 0; turn++) {
                int task = mostUrgent(chip, state, core);
                if (task == NONE) {
                    break;
                }
                int part = Math.min(left, state.rest[task]);
                state.rest[task] -= part;
                done[task] += part;
                left -= part;
            }
            int used = (speed - left) * costOf(chip, state, cluster);
            if (!state.isAsleep(core) && chip.hasCluster(cluster)) {
                used += chip.idle[cluster];
            }
            rememberIdling(chip, state, core, left == speed);
            return used;
        }

        private int costOf(Chip chip, State state, int cluster) {
            int point = chip.hasCluster(cluster) ? state.point[cluster] : NONE;
            return chip.hasPoint(cluster, point) ? chip.cost[cluster][point] : 0;
        }

        private int mostUrgent(Chip chip, State state, int core) {
            int urgent = NONE;
            for (int task = 0; task < chip.tasks; task++) {
                if (state.coreOf[task] != core || state.rest[task] == 0) {
                    continue;
                }
                if (urgent == NONE || ticksLeft(chip, state, task) < ticksLeft(chip, state, urgent)) {
                    urgent = task;
                }
            }
            return urgent;
        }

        /** A core that sleeps did nothing either, so it goes on counting. */
        private void rememberIdling(Chip chip, State state, int core, boolean idle) {
            state.idled[core] = idle ? state.idled[core] + 1 : 0;
            if (state.idled[core] >= chip.rules[SLEEP]) {
                state.sleepingCores = withBit(state.sleepingCores, core, true);
            }
        }

        private void fadeLoads(Chip chip, State state) {
            for (int task = 0; task < chip.tasks; task++) {
                state.load[task] = (7 * state.load[task] + cut(done[task] * LOAD_UNIT, chip.top)) / 8;
            }
        }
    }

    /**
     * Compares ways to put the tasks on cores. A way's number has a digit for each task, the core,
     * the first task's highest: so the first of several ways is the one with the lowest number.
     */
    private static final class Planner {
        final int[] way = new int[MOST_TASKS];
        final int[] best = new int[MOST_TASKS];
        int bestPrice;
        private final int[] share = new int[MOST_TASKS];
        private final int[] low = new int[MOST_CLUSTERS];
        private final int[] high = new int[MOST_CLUSTERS];
        private final int[] sum = new int[MOST_CORES];
        private final int[] prices = new int[MOST_WAYS];
        private final int[] distance = new int[MOST_WAYS];
        private final int[] queue = new int[MOST_WAYS];
        private int queued;

        int priceAsItIs(Chip chip, State state) {
            look(chip, state);
            System.arraycopy(state.coreOf, 0, way, 0, MOST_TASKS);
            return priceOf(chip);
        }

        /** Whether some way fits; all prices are known then. */
        boolean findBest(Chip chip, State state) {
            look(chip, state);
            bestPrice = NONE;
            int ways = waysOf(chip);
            for (int number = 0; number < ways; number++) {
                spread(chip, number);
                int price = priceOf(chip);
                prices[number] = price;
                if (price != NONE && (bestPrice == NONE || price < bestPrice)) {
                    bestPrice = price;
                    System.arraycopy(way, 0, best, 0, MOST_TASKS);
                }
            }
            return bestPrice != NONE;
        }

        /** Whether all could be put; the way tells where. */
        boolean putGreedily(Chip chip, State state) {
            look(chip, state);
            for (int task = 0; task < MOST_TASKS; task++) {
                way[task] = NONE;
            }
            for (int turn = 0; turn < chip.tasks; turn++) {
                int task = greatestNotPut(chip);
                if (task == NONE || !putCheaply(chip, task)) {
                    return false;
                }
            }
            return true;
        }

        /** From way to neighbouring way, those with fewer moves first. */
        int fewestMoves(Chip chip, State state) {
            if (!findBest(chip, state)) {
                return NONE;
            }
            for (int number = 0; number < MOST_WAYS; number++) {
                distance[number] = NONE;
            }
            queued = 0;
            reach(numberOf(chip, state.coreOf), 0);
            for (int i = 0; i < queued && i < MOST_WAYS; i++) {
                int number = queue[i];
                if (prices[number] == bestPrice) {
                    return distance[number];
                }
                reachNeighbours(chip, number);
            }
            return NONE;
        }

        int oddsBy(Chip chip, State state, int chance) {
            int sumOfParts = 0;
            for (int stops = 0; stops < 1 << chip.tasks; stops++) {
                int part = partOf(chip, state, stops, chance);
                if (part > 0 && someWayFits(chip, state, stops)) {
                    sumOfParts += part;
                }
            }
            return sumOfParts;
        }

        /** Of the way, tasks not put left out; NONE if it does not fit. */
        int priceOf(Chip chip) {
            addUp(chip);
            int price = 0;
            for (int cluster = 0; cluster < chip.clusters; cluster++) {
                int part = clusterPrice(chip, cluster);
                if (part == NONE) {
                    return NONE;
                }
                price += part;
            }
            return price;
        }

        private void look(Chip chip, State state) {
            for (int task = 0; task < chip.tasks; task++) {
                share[task] = state.isStopped(task) ? 0 : chip.shareOf(task);
            }
            for (int cluster = 0; cluster < chip.clusters; cluster++) {
                low[cluster] = state.lowOf(cluster);
                high[cluster] = state.highOf(chip, cluster);
            }
        }

        private void addUp(Chip chip) {
            for (int core = 0; core < chip.cores; core++) {
                sum[core] = 0;
            }
            for (int task = 0; task < chip.tasks; task++) {
                if (chip.hasCore(way[task])) {
                    sum[way[task]] += share[task];
                }
            }
        }

        /** A task that is not stopped has a share above 0, so the sums tell which cores are in use. */
        private int clusterPrice(Chip chip, int cluster) {
            int greatest = 0;
            int shares = 0;
            int coresInUse = 0;
            for (int core = 0; core < chip.cores; core++) {
                if (chip.clusterOf[core] == cluster) {
                    greatest = Math.max(greatest, sum[core]);
                    shares += sum[core];
                    coresInUse += sum[core] > 0 ? 1 : 0;
                }
            }
            int point = chip.firstPointFor(cluster, greatest);
            if (point == NONE || point > high[cluster]) {
                return NONE;
            }
            point = Math.min(Math.max(point, low[cluster]), high[cluster]);
            int cost = chip.hasPoint(cluster, point) ? chip.cost[cluster][point] : 0;
            return shares * cost + coresInUse * chip.idle[cluster];
        }

        private int waysOf(Chip chip) {
            int ways = 1;
            for (int task = 0; task < chip.tasks; task++) {
                ways *= chip.cores;
            }
            return Math.min(ways, MOST_WAYS);
        }

        private void spread(Chip chip, int number) {
            int left = number;
            for (int task = chip.tasks - 1; task >= 0 && chip.cores > 0; task--) {
                way[task] = left % chip.cores;
                left /= chip.cores;
            }
        }

        private int numberOf(Chip chip, int[] cores) {
            int number = 0;
            for (int task = 0; task < chip.tasks; task++) {
                number = number * chip.cores + cores[task];
            }
            return number;
        }

        private int greatestNotPut(Chip chip) {
            int greatest = NONE;
            for (int task = 0; task < chip.tasks; task++) {
                if (way[task] == NONE && (greatest == NONE || share[task] > share[greatest])) {
                    greatest = task;
                }
            }
            return greatest;
        }

        private boolean putCheaply(Chip chip, int task) {
            int cheapest = NONE;
            int least = NONE;
            for (int core = 0; core < chip.cores; core++) {
                way[task] = core;
                int price = priceOf(chip);
                if (price != NONE && (least == NONE || price < least)) {
                    least = price;
                    cheapest = core;
                }
            }
            way[task] = cheapest;
            return cheapest != NONE;
        }

        private void reach(int number, int moved) {
            boolean known = number < 0 || number >= MOST_WAYS || distance[number] != NONE;
            if (known || queued >= MOST_WAYS) {
                return;
            }
            distance[number] = moved;
            queue[queued] = number;
            queued++;
        }

        private void reachNeighbours(Chip chip, int number) {
            int weight = 1;
            for (int task = chip.tasks - 1; task >= 0 && chip.cores > 0; task--) {
                int core = number / weight % chip.cores;
                for (int other = 0; other < chip.cores; other++) {
                    int neighbour = number + (other - core) * weight;
                    if (neighbour >= 0 && neighbour < MOST_WAYS && prices[neighbour] != NONE) {
                        reach(neighbour, distance[number] + 1);
                    }
                }
                weight *= chip.cores;
            }
        }

        /** Of all parts those in which the tasks of these bits, and no others, are stopped. */
        private int partOf(Chip chip, State state, int stops, int chance) {
            long part = ALL_PARTS;
            for (int task = 0; task < chip.tasks; task++) {
                long stoppedPart = state.isStopped(task) ? part : part * chance / 100;
                part = bitOf(stops, task) == 1 ? stoppedPart : part - stoppedPart;
            }
            return (int) part;
        }

        private boolean someWayFits(Chip chip, State state, int stops) {
            look(chip, state);
            for (int task = 0; task < chip.tasks; task++) {
                share[task] = bitOf(stops, task) == 1 ? 0 : chip.shareOf(task);
            }
            int ways = waysOf(chip);
            for (int number = 0; number < ways; number++) {
                spread(chip, number);
                if (priceOf(chip) != NONE) {
                    return true;
                }
            }
            return false;
        }
    }

    /** What acts are refused for, and what they do. */
    private static final class Acts {
        final Clockwork clockwork = new Clockwork();
        final Planner planner = new Planner();

        /** Which status counts it; NONE if it can be. */
        int refusalOf(Chip chip, State state, Step step) {
            int first = step.numbers[0];
            switch (step.sort) {
                case TICK:
                    return tickRefusal(chip, state, first);
                case MOVE:
                    return moveRefusal(chip, state, first, step.numbers[1]);
                case ASK:
                    return askRefusal(chip, state, step);
                case DROP:
                    return dropRefusal(chip, state, step);
                case STOP:
                    return stopRefusal(chip, state, first, true);
                case START:
                    return stopRefusal(chip, state, first, false);
                default:
                    return settleRefusal(chip, state);
            }
        }

        /** What the act answers; it is not refused. */
        int carryOut(Chip chip, State state, Step step) {
            int first = step.numbers[0];
            switch (step.sort) {
                case TICK:
                    return clockwork.passMany(chip, state, first);
                case MOVE:
                    return putOn(chip, state, first, step.numbers[1]);
                case ASK:
                    return state.tell(step.asker, first, step.numbers[1], step.numbers[2]);
                case DROP:
                    state.forgetAsk(state.askOf(step.asker, first));
                    return state.asks;
                case STOP:
                    return halt(chip, state, first);
                case START:
                    return resume(chip, state, first);
                default:
                    return planner.findBest(chip, state) ? standBest(chip, state) : NONE;
            }
        }

        private int tickRefusal(Chip chip, State state, int ticks) {
            if (!chip.isTold()) {
                return NO_SUCH;
            }
            if (ticks < 1 || ticks > MOST_TICKS) {
                return OUT_OF_BOUNDS;
            }
            return state.time + ticks > LAST_TIME ? TOO_MUCH : NONE;
        }

        private int moveRefusal(Chip chip, State state, int task, int core) {
            if (!chip.hasTask(task) || !chip.hasCore(core)) {
                return NO_SUCH;
            }
            return state.coreOf[task] == core ? NOTHING_TO_DO : NONE;
        }

        private int askRefusal(Chip chip, State state, Step step) {
            int cluster = step.numbers[0];
            int low = step.numbers[1];
            int high = step.numbers[2];
            if (!chip.hasCluster(cluster)) {
                return NO_SUCH;
            }
            boolean arePoints = chip.hasPoint(cluster, low) && chip.hasPoint(cluster, high);
            if (step.asker == 0L || !arePoints || low > high) {
                return OUT_OF_BOUNDS;
            }
            int k = state.askOf(step.asker, cluster);
            if (k == NONE) {
                return state.asks >= MOST_ASKS ? TOO_MUCH : NONE;
            }
            return state.askedLow[k] == low && state.askedHigh[k] == high ? NOTHING_TO_DO : NONE;
        }

        private int dropRefusal(Chip chip, State state, Step step) {
            if (!chip.hasCluster(step.numbers[0])) {
                return NO_SUCH;
            }
            if (step.asker == 0L) {
                return OUT_OF_BOUNDS;
            }
            return state.askOf(step.asker, step.numbers[0]) == NONE ? NOTHING_TO_DO : NONE;
        }

        private int stopRefusal(Chip chip, State state, int task, boolean stopping) {
            if (!chip.hasTask(task)) {
                return NO_SUCH;
            }
            return state.isStopped(task) == stopping ? NOTHING_TO_DO : NONE;
        }

        private int settleRefusal(Chip chip, State state) {
            if (!chip.isTold()) {
                return NO_SUCH;
            }
            if (!planner.findBest(chip, state)) {
                return TOO_MUCH;
            }
            return movedForBest(chip, state) == 0 ? NOTHING_TO_DO : NONE;
        }

        private int movedForBest(Chip chip, State state) {
            int moved = 0;
            for (int task = 0; task < chip.tasks; task++) {
                moved += state.coreOf[task] != planner.best[task] ? 1 : 0;
            }
            return moved;
        }

        private int putOn(Chip chip, State state, int task, int core) {
            if (!chip.hasTask(task)) {
                return NONE;
            }
            int from = state.coreOf[task];
            state.coreOf[task] = core;
            return from;
        }

        private int halt(Chip chip, State state, int task) {
            if (!chip.hasTask(task)) {
                return NONE;
            }
            int rest = state.rest[task];
            state.rest[task] = 0;
            state.stoppedTasks = withBit(state.stoppedTasks, task, true);
            return rest;
        }

        private int resume(Chip chip, State state, int task) {
            if (!chip.hasTask(task)) {
                return NONE;
            }
            state.stoppedTasks = withBit(state.stoppedTasks, task, false);
            return state.time;
        }

        private int standBest(Chip chip, State state) {
            int moved = movedForBest(chip, state);
            System.arraycopy(planner.best, 0, state.coreOf, 0, MOST_TASKS);
            return moved;
        }
    }
}
