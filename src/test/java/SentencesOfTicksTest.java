/**
 * The sentences of the document's Terms 2 that tell a tick, and of promises 6 to 10, 13, 29, 30 and 35, that
 * name a boundary: each is quoted, and the answers below the quotation would differ if it were broken.
 */
public final class SentencesOfTicksTest {
    private static final Checks CHECKS = new Checks();

    public static void main(String[] args) {
        coresNumbered();
        atFirst();
        released();
        late();
        startedAndStopped();
        wakes();
        needs();
        needOfOneCore();
        wants();
        wantsTheLast();
        fallsBehindTheHold();
        longHold();
        risesAtOnce();
        lowThenHigh();
        heatTakesAPoint();
        boostEnds();
        urgentFirst();
        restAndEnergy();
        idledAndSleeps();
        loadsFade();
        loadsRise();
        heatCools();
        lastTime();
        rules();
        clusters();
        points();
        cores();
        tasks();
        ticks();
        ahead();
        aheadOfTheLastTime();
        bound();
        boundRefused();
        boundByAsks();
        all();
        allOfSeveral();
        CHECKS.close("SentencesOfTicksTest");
    }

    /** POINT, HELD, BOOST of a cluster. */
    private static int[] cluster(SpeedDesk desk, int cluster) {
        return new int[] {desk.cluster(cluster, 4), desk.cluster(cluster, 5), desk.cluster(cluster, 6)};
    }

    /** REST, LOAD, LATE of a task. */
    private static int[] task(SpeedDesk desk, int task) {
        return new int[] {desk.task(task, 3), desk.task(task, 4), desk.task(task, 5)};
    }

    private static int[] rests(SpeedDesk desk) {
        return new int[] {desk.task(0, 3), desk.task(1, 3)};
    }

    /** A desk at this time. */
    private static SpeedDesk at(String chip, int time) {
        SpeedDesk desk = Checks.chip(chip);
        for (int left = time; left > 0; left -= 60) {
            desk.tick(Math.min(left, 60));
        }
        CHECKS.due("time", desk.all(0), time);
        return desk;
    }

    // ---- Terms 2

    private static void coresNumbered() {
        CHECKS.says("CORES are numbered through all CLUSTERS (6 at most).");
        SpeedDesk desk = Checks.chip("cluster a 1 0 0;cluster b 3 0 0;cluster c 2 0 0;point a 1 1;point b 1 1;point c 1 1");
        CHECKS.row("clusters of cores", new int[] {desk.core(0, 0), desk.core(1, 0), desk.core(2, 0), desk.core(3, 0), desk.core(4, 0), desk.core(5, 0),
            desk.core(6, 0), desk.core(-1, 0)}, 0, 1, 1, 1, 2, 2, -1000000, -1000000);
    }

    private static void atFirst() {
        CHECKS.says("A CLUSTER has a POINT (0 first), HELD (0), BOOST (0). A CORE is awake first; it has IDLED 0 TICKS. A TASK stands on a CORE (all on CORE 0 first), "
                + "has REST (0), LOAD (0), LATE (0), is STOPPED or not. TIME, HEAT, ENERGY are 0.");
        SpeedDesk desk = Checks.chip("cluster a 1 0 0;cluster b 3 0 0;point a 5 1;point a 9 1;point b 3 1;point b 7 1;task s 1 1;task t 2 1;task u 3 1;task v 4 1;boost 9");
        for (int c = 0; c < 2; c++) {
            CHECKS.row("cluster " + c, cluster(desk, c), 0, 0, 0);
        }
        for (int k = 0; k < 4; k++) {
            CHECKS.row("core " + k, new int[] {desk.core(k, 1), desk.core(k, 2), desk.core(k, 3)}, 0, 0, k == 0 ? 15 : 0);
        }
        for (int t = 0; t < 4; t++) {
            CHECKS.row("task " + t, new int[] {desk.task(t, 2), desk.task(t, 3), desk.task(t, 4), desk.task(t, 5), desk.task(t, 6)}, 0, 0, 0, 0, 0);
        }
        CHECKS.row("time, heat, energy", new int[] {desk.all(0), desk.all(1), desk.all(2)}, 0, 0, 0);
        CHECKS.says("TOP is the greatest SPEED of all POINTS.");
        CHECKS.due("of the first cluster", desk.rule(6), 9);
        CHECKS.due("of the last", Checks.chip("cluster a 1 0 0;cluster b 3 0 0;point b 3 1;point b 99 1;point a 5 1").rule(6), 99);
        CHECKS.due("1 at least", Checks.chip("cluster a 1 0 0;point a 1 9").rule(6), 1);
    }

    private static void released() {
        CHECKS.says("each TASK that is not STOPPED and whose PERIOD divides TIME:");
        SpeedDesk desk = Checks.chip("cluster a 1 0 0;point a 9 1;task t 2 20");
        CHECKS.row("at time 0, not again until 20, then at 40", new int[] {desk.tick(1), desk.tick(19), desk.tick(1), desk.tick(19), desk.tick(1)}, 2, 0, 2, 0, 2);
        desk = Checks.chip("cluster a 1 0 0;point a 9 1;task t 2 1");
        CHECKS.row("at each", new int[] {desk.tick(1), desk.tick(1), desk.tick(1)}, 2, 2, 2);
        desk = Checks.chip("cluster a 1 0 0;point a 9 1;task t 2 3;task u 4 2");
        CHECKS.row("at 0, 2, 3, 4, 6", new int[] {desk.tick(1), desk.tick(1), desk.tick(1), desk.tick(1), desk.tick(1), desk.tick(1), desk.tick(1)}, 6, 0, 4, 2, 4, 0, 6);
    }

    private static void late() {
        CHECKS.says("has it REST above 0, it is LATE once more; its REST is WORK");
        SpeedDesk desk = Checks.chip("cluster a 1 0 0;point a 2 1;task t 4 2");
        CHECKS.row("none is left at the period's end", new int[] {desk.tick(60), desk.task(0, 3), desk.task(0, 5)}, 120, 0, 0);
        desk = Checks.chip("cluster a 1 0 0;point a 2 1;task t 5 2");
        desk.tick(2);
        CHECKS.row("1 is left, not late yet", new int[] {desk.task(0, 3), desk.task(0, 5)}, 1, 0);
        desk.tick(1);
        CHECKS.row("late, and 5, not 6, again", new int[] {desk.task(0, 3), desk.task(0, 5)}, 3, 1);
        desk.tick(2);
        CHECKS.row("once more", new int[] {desk.task(0, 3), desk.task(0, 5)}, 3, 2);
        desk = Checks.chip("cluster a 1 0 0;point a 2 1;task t 3 1");
        desk.tick(60);
        CHECKS.row("never in the first tick", new int[] {desk.task(0, 3), desk.task(0, 5)}, 1, 59);
    }

    private static void startedAndStopped() {
        CHECKS.says("a TASK is MOVED, STOPPED (REST 0), STARTED");
        SpeedDesk desk = Checks.chip("cluster a 1 0 0;point a 2 1;task t 5 2");
        desk.tick(2);
        CHECKS.row("1 is left", new int[] {desk.stop(0), desk.task(0, 3)}, 1, 0);
        CHECKS.row("no work, not late", new int[] {desk.tick(4), desk.task(0, 3), desk.task(0, 5)}, 0, 0, 0);
        desk.start(0);
        CHECKS.row("at its period's end: not late", new int[] {desk.tick(1), desk.task(0, 3), desk.task(0, 5)}, 2, 3, 0);
        desk.stop(0);
        desk.start(0);
        CHECKS.row("not ahead of its period's end", new int[] {desk.tick(1), desk.task(0, 3), desk.tick(1), desk.task(0, 3), desk.task(0, 5)}, 0, 0, 2, 3, 0);
    }

    private static void wakes() {
        CHECKS.says("then each CORE that sleeps and has a TASK with REST wakes: WAKE is used, BOOST of the CLUSTER is as told.");
        String chip = "cluster a 2 0 7;point a 9 1;cluster b 1 0 0;point b 9 1;task t 1 3;task u 1 3;sleep 1;boost 4";
        SpeedDesk desk = Checks.chip(chip);
        CHECKS.row("awake first: no wake, no boost", new int[] {desk.tick(1), desk.all(4), desk.cluster(0, 6)}, 2, 6, 0);
        CHECKS.row("no task with rest: no wake", new int[] {desk.tick(2), desk.all(4), desk.cluster(0, 6)}, 0, 7, 0);
        CHECKS.row("one core, once by two tasks", new int[] {desk.tick(1), desk.all(4), desk.cluster(0, 6), desk.cluster(1, 6), desk.all(1)}, 9, 6, 3, 0, 11);
        desk = Checks.chip(chip);
        desk.move(1, 1);
        CHECKS.row("two cores, each once", new int[] {desk.tick(3), desk.all(4), desk.tick(1), desk.all(4)}, 2, 7, 16, 4);
        desk = Checks.chip("cluster a 2 0 7;point a 1 1;task t 9 20;sleep 1");
        desk.tick(1);
        desk.move(0, 1);
        CHECKS.row("not by being moved, but in the next tick", new int[] {desk.all(4), desk.tick(1), desk.all(4)}, 2, 8, 1);
        desk = Checks.chip("cluster a 1 0 7;point a 9 1;task t 1 1;sleep 1;boost 4");
        CHECKS.row("a core that is awake is not woken", new int[] {desk.tick(9), desk.cluster(0, 6)}, 9, 0);
        desk.stop(0);
        desk.tick(2);
        CHECKS.row("nor one whose task is stopped", new int[] {desk.tick(5), desk.all(4)}, 0, 1);
    }

    /** In the first tick 8 of TOP 8 are done: the load is 128. */
    private static SpeedDesk loaded(String rest) {
        SpeedDesk desk = Checks.chip("cluster a 1 0 0;point a 1 1;point a 2 1;point a 8 1;task t 8 20;" + rest);
        CHECKS.due("need of no load", desk.cluster(0, 9), 0);
        Checks.ask(desk, "bob", 0, 2, 2);
        desk.tick(1);
        CHECKS.due("load", desk.task(0, 4), 128);
        return desk;
    }

    private static void needs() {
        CHECKS.says("times TOP, times 100 and margin, by 102,400, the whole number that is no less");
        CHECKS.due("1", loaded("margin 0").cluster(0, 9), 1);
        CHECKS.due("1.01", loaded("margin 1").cluster(0, 9), 2);
        CHECKS.due("1.25", loaded("hold 3").cluster(0, 9), 2);
        CHECKS.due("1.99", loaded("margin 99").cluster(0, 9), 2);
        CHECKS.due("2", loaded("margin 100").cluster(0, 9), 2);
        SpeedDesk desk = Checks.chip("cluster a 1 0 0;point a 99 1;task s 99 1;task t 99 1;task u 99 1;task v 99 1;cluster b 3 0 0;point b 99 1;margin 100");
        desk.move(1, 1);
        desk.move(2, 2);
        desk.move(3, 3);
        desk.tick(60);
        desk.move(1, 0);
        desk.move(2, 0);
        desk.move(3, 0);
        CHECKS.row("4 by 1,017, by 99, by 200", new int[] {desk.task(3, 4), desk.cluster(0, 9), desk.cluster(1, 9)}, 1017, 787, 0);
    }

    private static void needOfOneCore() {
        CHECKS.says("NEED is the greatest sum of LOADS of TASKS on one of its CORES");
        SpeedDesk desk = Checks.chip("cluster a 2 0 0;point a 8 1;cluster b 1 0 0;point b 1 1;task t 8 20;task u 8 20;task v 4 20;margin 0");
        desk.move(1, 1);
        desk.tick(1);
        CHECKS.row("128 on each", new int[] {desk.task(0, 4), desk.task(1, 4), desk.task(2, 4), desk.cluster(0, 9), desk.cluster(1, 9)}, 128, 128, 0, 1, 0);
        desk.move(1, 0);
        CHECKS.due("256 on one", desk.cluster(0, 9), 2);
        desk.tick(1);
        CHECKS.row("288 on one", new int[] {desk.task(0, 4), desk.task(1, 4), desk.task(2, 4), desk.cluster(0, 9)}, 112, 112, 64, 3);
        desk.move(0, 2);
        CHECKS.row("176 and 112", new int[] {desk.cluster(0, 9), desk.cluster(1, 9)}, 2, 1);
        desk.move(1, 1);
        CHECKS.row("64, 112; stopped ones have a load, too", new int[] {desk.cluster(0, 9), desk.stop(1), desk.cluster(0, 9)}, 1, 0, 1);
    }

    private static void wants() {
        CHECKS.says("WANT is its first POINT with a SPEED no less than NEED (none: the last)");
        CHECKS.due("1 for 1", loaded("margin 0").cluster(0, 10), 0);
        CHECKS.due("2 for 1.01", loaded("margin 1").cluster(0, 10), 1);
        CHECKS.due("2 for 2", loaded("margin 100").cluster(0, 10), 1);
        SpeedDesk desk = loaded("task u 8 20");
        desk.tick(1);
        CHECKS.row("240 by 8, by 125: 2.3; 8 for 3", new int[] {desk.task(0, 4), desk.task(1, 4), desk.cluster(0, 9), desk.cluster(0, 10)}, 112, 128, 3, 2);
        desk = Checks.chip("cluster a 1 0 0;point a 1 1;point a 2 1;cluster b 1 0 0;point b 8 1;task t 8 20;task u 8 20;margin 50");
        desk.move(0, 1);
        desk.move(1, 1);
        desk.tick(2);
        desk.move(0, 0);
        CHECKS.row("112 by 8, by 150: 1.3; 128: 1.5", new int[] {desk.cluster(0, 9), desk.cluster(0, 10), desk.cluster(1, 9), desk.cluster(1, 10)}, 2, 1, 2, 0);
        desk.move(1, 0);
        CHECKS.row("no speed for 3: the last", new int[] {desk.cluster(0, 9), desk.cluster(0, 10), desk.cluster(1, 9), desk.cluster(1, 10)}, 3, 1, 0, 0);
    }

    private static final String WAKING = "cluster a 1 0 0;point a 1 1;point a 2 1;point a 8 1;task t 1 20;sleep 1;";

    private static void wantsTheLast() {
        CHECKS.says("the last, if BOOST is above 0.");
        SpeedDesk desk = at(WAKING + "boost 2", 20);
        CHECKS.row("asleep", new int[] {desk.all(4), desk.cluster(0, 10)}, 1, 0);
        desk.tick(1);
        CHECKS.row("woken", cluster(desk, 0), 2, 0, 1);
        CHECKS.due("boost 1", desk.cluster(0, 10), 2);
        desk.tick(1);
        CHECKS.row("held", cluster(desk, 0), 2, 1, 0);
        CHECKS.due("boost 0", desk.cluster(0, 10), 0);
        desk = at(WAKING + "boost 0", 21);
        CHECKS.row("without", cluster(desk, 0), 0, 21, 0);
        desk = at(WAKING + "boost 1", 21);
        CHECKS.row("for one tick", cluster(desk, 0), 2, 0, 0);
        CHECKS.due("then no more", desk.cluster(0, 10), 0);
    }

    private static final String IDLE = "cluster a 1 0 0;point a 1 1;point a 2 1;point a 3 1";

    /** At the last point, with HELD 1, and nothing to hold it there. */
    private static SpeedDesk raised(String rest) {
        SpeedDesk desk = Checks.chip(IDLE + ";" + rest);
        Checks.ask(desk, "bob", 0, 2, 2);
        desk.tick(1);
        CHECKS.row("raised", cluster(desk, 0), 2, 1, 0);
        Checks.drop(desk, "bob", 0);
        return desk;
    }

    private static void fallsBehindTheHold() {
        CHECKS.says("is it below, and HELD no less than hold, POINT is one less, HELD 0; else HELD is one more.");
        int[][] zero = {{1, 0}, {0, 0}, {0, 1}, {0, 2}};
        int[][] one = {{1, 0}, {1, 1}, {0, 0}, {0, 1}};
        int[][] two = {{2, 2}, {1, 0}, {1, 1}, {1, 2}, {0, 0}, {0, 1}};
        int[][] three = {{2, 2}, {2, 3}, {1, 0}, {1, 1}, {1, 2}, {1, 3}, {0, 0}, {0, 1}};
        falls("hold 0", zero);
        falls("hold 1", one);
        falls("hold 2", two);
        falls("hold 3", three);
        falls("cool 8", three);
    }

    private static void falls(String rest, int[][] pointAndHeld) {
        SpeedDesk desk = raised(rest);
        for (int i = 0; i < pointAndHeld.length; i++) {
            desk.tick(1);
            CHECKS.row(rest + ", tick " + (i + 2), new int[] {desk.cluster(0, 4), desk.cluster(0, 5)}, pointAndHeld[i]);
        }
    }

    private static void longHold() {
        CHECKS.says("else HELD is one more");
        SpeedDesk desk = raised("hold 20");
        desk.tick(19);
        CHECKS.row("20", cluster(desk, 0), 2, 20, 0);
        desk.tick(1);
        CHECKS.row("21", cluster(desk, 0), 1, 0, 0);
        desk.tick(20);
        CHECKS.row("41", cluster(desk, 0), 1, 20, 0);
        desk.tick(1);
        CHECKS.row("42", cluster(desk, 0), 0, 0, 0);
        desk.tick(60);
        CHECKS.row("no less than 0, and no end of it", cluster(desk, 0), 0, 60, 0);
    }

    private static void risesAtOnce() {
        CHECKS.says("Is WANT above POINT, POINT is WANT, HELD 0");
        SpeedDesk desk = at("cluster a 1 0 0;point a 1 1;point a 2 1;point a 3 1;point a 4 1;point a 8 1;task t 1 20;sleep 1;boost 1;hold 20", 20);
        CHECKS.row("ahead of it", cluster(desk, 0), 0, 20, 0);
        desk.tick(1);
        CHECKS.row("over three points at once", cluster(desk, 0), 4, 0, 0);
        desk = Checks.chip("cluster a 1 0 0;point a 1 1;point a 2 1;point a 8 1;task t 8 20;margin 1;hold 20");
        Checks.ask(desk, "bob", 0, 2, 2);
        desk.tick(1);
        Checks.drop(desk, "bob", 0);
        Checks.ask(desk, "eve", 0, 0, 0);
        desk.tick(1);
        CHECKS.row("want 1 is below 2: held; high 0", cluster(desk, 0), 0, 2, 0);
        Checks.drop(desk, "eve", 0);
        CHECKS.due("112 by 8, by 101", desk.cluster(0, 9), 1);
        desk.tick(1);
        CHECKS.row("want 0 is not above 0", cluster(desk, 0), 0, 3, 0);
    }

    private static void lowThenHigh() {
        CHECKS.says("Then POINT is LOW at least, then HIGH at most (see ASKS)");
        SpeedDesk desk = Checks.chip(IDLE);
        Checks.ask(desk, "bob", 0, 1, 2);
        CHECKS.due("not ahead of a tick", desk.cluster(0, 4), 0);
        desk.tick(1);
        CHECKS.row("low", cluster(desk, 0), 1, 1, 0);
        Checks.ask(desk, "eve", 0, 0, 0);
        desk.tick(1);
        CHECKS.row("high below low", cluster(desk, 0), 0, 2, 0);
        Checks.drop(desk, "eve", 0);
        Checks.ask(desk, "bob", 0, 2, 2);
        desk.tick(1);
        CHECKS.row("the last", cluster(desk, 0), 2, 3, 0);
        Checks.ask(desk, "bob", 0, 0, 1);
        desk.tick(1);
        CHECKS.row("one less by want, and held 0", cluster(desk, 0), 1, 0, 0);
        desk = Checks.chip(WAKING + "boost 9;hold 0");
        Checks.ask(desk, "bob", 0, 0, 1);
        desk.tick(20);
        desk.tick(1);
        CHECKS.row("want 2, high 1", cluster(desk, 0), 1, 0, 8);
        desk.tick(1);
        CHECKS.row("want is above the point still", cluster(desk, 0), 1, 0, 7);
        CHECKS.says("LOW of a CLUSTER is the greatest one asked (0 without), HIGH the least (the last POINT without).");
        desk = Checks.chip(IDLE + ";cluster b 1 0 0;point b 1 1;point b 2 1");
        CHECKS.row("without", new int[] {desk.cluster(0, 7), desk.cluster(0, 8), desk.cluster(1, 7), desk.cluster(1, 8)}, 0, 2, 0, 1);
        Checks.ask(desk, "bob", 0, 1, 1);
        CHECKS.row("one, of one cluster", new int[] {desk.cluster(0, 7), desk.cluster(0, 8), desk.cluster(1, 7), desk.cluster(1, 8)}, 1, 1, 0, 1);
        Checks.ask(desk, "eve", 0, 2, 2);
        Checks.ask(desk, "ann", 0, 0, 2);
        CHECKS.row("the greatest, the least", new int[] {desk.cluster(0, 7), desk.cluster(0, 8)}, 2, 1);
        Checks.ask(desk, "eve", 1, 0, 0);
        CHECKS.row("of each cluster its own", new int[] {desk.cluster(0, 7), desk.cluster(0, 8), desk.cluster(1, 7), desk.cluster(1, 8)}, 2, 1, 0, 0);
    }

    private static void heatTakesAPoint() {
        CHECKS.says("if HEAT is above limit, it is one less than that for once, 0 at least (HELD stays).");
        String hot = "cluster a 1 5 0;point a 1 1;point a 2 1;point a 3 1;cluster b 1 0 0;point b 1 1;point b 2 1;cool 2;sleep 20;hold 20;";
        SpeedDesk desk = Checks.chip(hot + "limit 5");
        Checks.ask(desk, "bob", 0, 2, 2);
        Checks.ask(desk, "bob", 1, 1, 1);
        int[][] want = {{5, 2, 1, 1}, {8, 2, 2, 1}, {9, 1, 3, 0}, {10, 1, 4, 0}, {10, 1, 5, 0}};
        for (int i = 0; i < want.length; i++) {
            desk.tick(1);
            CHECKS.row("heat, point, held, the other's point " + i, new int[] {desk.all(1), desk.cluster(0, 4), desk.cluster(0, 5), desk.cluster(1, 4)}, want[i]);
        }
        desk = Checks.chip(hot + "limit 4");
        Checks.ask(desk, "bob", 0, 2, 2);
        desk.tick(2);
        CHECKS.row("5 is above 4", new int[] {desk.all(1), desk.cluster(0, 4), desk.cluster(0, 5)}, 8, 1, 2);
        desk = Checks.chip(hot + "limit 1");
        desk.tick(9);
        CHECKS.row("0 at least", new int[] {desk.all(1) > 1 ? 1 : 0, desk.cluster(0, 4), desk.cluster(0, 5)}, 1, 0, 9);
    }

    private static void boostEnds() {
        CHECKS.says("BOOST is one less, 0 at least.");
        SpeedDesk desk = at(WAKING + "boost 9;hold 0", 20);
        for (int left = 8; left >= 0; left--) {
            desk.tick(1);
            CHECKS.row("boosted", cluster(desk, 0), 2, left == 8 ? 0 : 8 - left, left);
        }
        desk.tick(1);
        CHECKS.row("0 stays", cluster(desk, 0), 1, 0, 0);
        desk.tick(1);
        CHECKS.row("0 stays still", cluster(desk, 0), 0, 0, 0);
    }

    private static void urgentFirst() {
        CHECKS.says("of its TASKS with REST, by how many TICKS are left until PERIOD divides TIME, then by number");
        String one = "cluster a 1 0 0;point a 1 1;";
        SpeedDesk desk = Checks.chip(one + "task s 1 3;task t 1 2");
        desk.tick(1);
        CHECKS.row("3 and 2 are left at time 0, not 0 and 0", rests(desk), 1, 0);
        desk = Checks.chip(one + "task s 1 2;task t 1 2");
        desk.tick(1);
        CHECKS.row("like ones: the lower", rests(desk), 0, 1);
        desk = Checks.chip(one + "task s 3 4;task t 1 2");
        desk.tick(2);
        CHECKS.row("4 and 2; then one alone", rests(desk), 2, 0);
        desk.tick(1);
        CHECKS.row("2 and 2 are left at time 2", rests(desk), 1, 1);
        desk.tick(1);
        CHECKS.row("1 and 1 at time 3", rests(desk), 0, 1);
        desk = Checks.chip("cluster a 2 0 0;point a 4 1;task s 3 3;task t 3 2");
        desk.tick(1);
        CHECKS.row("what is left of the speed is the next one's", rests(desk), 2, 0);
        desk = Checks.chip("cluster a 2 0 0;point a 4 1;task s 5 3;task t 5 2");
        desk.move(0, 1);
        desk.tick(1);
        CHECKS.row("each core its own ones", rests(desk), 1, 1);
    }

    private static void restAndEnergy() {
        CHECKS.says("REST is less by what is done, 0 at least. Each unit done uses COST; a CORE that is awake uses IDLE;");
        SpeedDesk desk = Checks.chip("cluster a 2 3 0;point a 5 2;task t 7 20");
        CHECKS.row("5 by 2, twice 3", new int[] {desk.tick(1), desk.task(0, 3)}, 16, 2);
        CHECKS.row("2 by 2, twice 3", new int[] {desk.tick(1), desk.task(0, 3), desk.core(0, 2)}, 10, 0, 0);
        CHECKS.row("3 of the one that is awake", new int[] {desk.tick(1), desk.task(0, 3), desk.all(4)}, 3, 0, 2);
        CHECKS.row("asleep behind this tick", new int[] {desk.tick(1), desk.all(4)}, 3, 3);
        CHECKS.row("none of those that sleep", new int[] {desk.tick(1), desk.all(2)}, 0, 32);
        desk = Checks.chip("cluster a 1 99 99;point a 99 99;task t 99 2;sleep 1");
        CHECKS.row("the most of one core", new int[] {desk.tick(1), desk.task(0, 3), desk.tick(1), desk.tick(1)}, 9801 + 99, 0, 99, 9801 + 99 + 99);
    }

    private static void idledAndSleeps() {
        CHECKS.says("one that did nothing has IDLED one TICK more, and sleeps behind this TICK, if that is sleep or more; else IDLED is 0.");
        for (int sleep : new int[] {1, 2, 20}) {
            SpeedDesk desk = Checks.chip("cluster a 1 3 0;point a 5 2;sleep " + sleep);
            for (int i = 1; i <= sleep; i++) {
                CHECKS.row("sleep " + sleep + ", tick " + i, new int[] {desk.tick(1), desk.core(0, 1), desk.core(0, 2), desk.all(4)}, 3, i == sleep ? 1 : 0, i, i == sleep ? 1 : 0);
            }
            CHECKS.row("asleep it uses nothing", new int[] {desk.tick(1), desk.core(0, 1)}, 0, 1);
        }
        SpeedDesk desk = Checks.chip("cluster a 1 3 50;point a 5 2;task t 1 2");
        CHECKS.row("without: 2", new int[] {desk.tick(1), desk.core(0, 2), desk.tick(1), desk.core(0, 2), desk.core(0, 1), desk.tick(1), desk.core(0, 2)},
            5, 0, 3, 1, 0, 5, 0);
        CHECKS.row("it never sleeps", new int[] {desk.tick(57), desk.all(4)}, 28 * 5 + 29 * 3, 0);
    }

    private static void loadsFade() {
        CHECKS.says("LOAD of each TASK: 7 times LOAD and what it has done now times 1,024 by TOP, cut, by 8, cut.");
        SpeedDesk desk = Checks.chip("cluster a 1 0 0;point a 3 1;task t 1 20;task u 9 20");
        desk.move(1, 0);
        desk.stop(1);
        int[] loads = {42, 36, 31, 27, 23, 20, 17, 14, 12, 10, 8, 7, 6, 5, 4, 3, 2, 1, 0, 0, 42};
        for (int i = 0; i < loads.length; i++) {
            desk.tick(1);
            CHECKS.row("load " + i, new int[] {desk.task(0, 4), desk.task(1, 4)}, loads[i], 0);
        }
        for (int low = 0; low < 2; low++) {
            desk = Checks.chip("cluster a 1 0 0;point a 4 1;point a 8 1;task t 4 20");
            Checks.ask(desk, "bob", 0, low, 1);
            desk.tick(1);
            CHECKS.row("4 units by any speed", new int[] {desk.cluster(0, 4), desk.task(0, 4)}, low, 64);
        }
    }

    private static void loadsRise() {
        CHECKS.says("7 times LOAD and what it has done now times 1,024 by TOP");
        SpeedDesk desk = Checks.chip("cluster a 1 0 0;point a 99 1;task t 99 1");
        int[] loads = {128, 240, 338, 423, 498, 563, 620};
        for (int i = 0; i < loads.length; i++) {
            desk.tick(1);
            CHECKS.due("load " + i, desk.task(0, 4), loads[i]);
        }
        desk.tick(33);
        CHECKS.due("behind 40 ticks", desk.task(0, 4), 1016);
        desk.tick(1);
        CHECKS.due("behind 41 ticks", desk.task(0, 4), 1017);
        desk.tick(60);
        CHECKS.due("it rises no more", desk.task(0, 4), 1017);
    }

    private static void heatCools() {
        CHECKS.says("HEAT is more by what was used in this TICK, less by HEAT as it was by cool, cut. ENERGY is more by that.");
        heats("cool 2", 5, 8, 9, 10, 10);
        heats("cool 16", 5, 10, 15, 20, 24);
        heats("cool 5", 5, 9, 13, 16, 18);
        heats("hold 3", 5, 10, 14, 18, 21);
        SpeedDesk desk = Checks.chip("cluster a 1 9 0;point a 1 1;cool 2;sleep 1");
        int[] heats = {9, 5, 3, 2, 1, 1, 1};
        for (int i = 0; i < heats.length; i++) {
            desk.tick(1);
            CHECKS.row("nothing is used", new int[] {desk.all(1), desk.all(2)}, heats[i], 9);
        }
    }

    private static void heats(String rule, int... want) {
        SpeedDesk desk = Checks.chip("cluster a 1 5 0;point a 1 1;sleep 20;" + rule);
        for (int i = 0; i < want.length; i++) {
            desk.tick(1);
            CHECKS.row(rule + ", tick " + (i + 1), new int[] {desk.all(1), desk.all(2), desk.all(0)}, want[i], 5 * (i + 1), i + 1);
        }
    }

    private static void lastTime() {
        CHECKS.says("TIME is one more (9,999 at most).");
        SpeedDesk desk = at("cluster a 1 0 0;point a 9 1;task t 1 1", 9998);
        CHECKS.row("two are too many", new int[] {desk.tick(2), desk.all(0), desk.tick(1), desk.all(0), desk.tick(1), desk.all(0)}, -1, 9998, 1, 9999, -1, 9999);
    }

    // ---- promises 6 to 10

    private static void rules() {
        CHECKS.says("0 margin, 1 hold, 2 sleep, 3 boost, 4 limit, 5 cool, 6 TOP, 7 CORES of all. NONE: no CHIP, no such what.");
        SpeedDesk desk = new SpeedDesk();
        for (int what = -1; what <= 8; what++) {
            CHECKS.due("no chip: rule(" + what + ")", desk.rule(what), -1);
        }
        desk = Checks.chip("margin 1;hold 2;sleep 3;boost 4;limit 5;cool 6;cluster a 3 0 0;cluster b 3 0 0;point a 7 1;point b 8 1");
        int[] want = {1, 2, 3, 4, 5, 6, 8, 6};
        for (int what = 0; what <= 7; what++) {
            CHECKS.due("rule(" + what + ")", desk.rule(what), want[what]);
        }
        CHECKS.row("no such what", new int[] {desk.rule(-1), desk.rule(8), desk.rule(Integer.MAX_VALUE), desk.rule(Integer.MIN_VALUE)}, -1, -1, -1, -1);
    }

    private static void clusters() {
        CHECKS.says("9 NEED as it would be now, 10 WANT as it would be now. NoSuchElementException: no such ones.");
        SpeedDesk none = new SpeedDesk();
        SpeedDesk desk = Checks.chip("cluster a 2 3 4;cluster b 1 5 6;point a 7 1;point a 8 1;point b 9 1");
        for (int what = 0; what <= 10; what++) {
            CHECKS.clusterThrows(none, 0, what);
            CHECKS.clusterThrows(desk, 2, what);
            CHECKS.clusterThrows(desk, -1, what);
        }
        int[][] want = {{2, 3, 4, 2, 0, 0, 0, 0, 1, 0, 0}, {1, 5, 6, 1, 0, 0, 0, 0, 0, 0, 0}};
        for (int c = 0; c < 2; c++) {
            for (int what = 0; what <= 10; what++) {
                CHECKS.due("cluster(" + c + ", " + what + ")", desk.cluster(c, what), want[c][what]);
            }
            for (int what : new int[] {-1, 11, Integer.MAX_VALUE, Integer.MIN_VALUE}) {
                CHECKS.clusterThrows(desk, c, what);
            }
        }
    }

    private static void points() {
        CHECKS.says("Of a POINT: 0 SPEED, 1 COST. NONE: no such ones.");
        SpeedDesk desk = Checks.chip("cluster a 1 0 0;cluster b 1 0 0;point a 1 2;point a 3 4;point a 5 6;point a 7 8;point a 9 10;point b 11 12");
        for (int p = 0; p < 5; p++) {
            CHECKS.row("point " + p, new int[] {desk.point(0, p, 0), desk.point(0, p, 1), desk.point(0, p, 2), desk.point(0, p, -1)}, 2 * p + 1, 2 * p + 2, -1, -1);
        }
        CHECKS.row("no such ones", new int[] {desk.point(0, 5, 0), desk.point(0, -1, 0), desk.point(1, 1, 0), desk.point(2, 0, 0), desk.point(-1, 0, 0),
            desk.point(1, 0, 1), new SpeedDesk().point(0, 0, 0)}, -1, -1, -1, -1, -1, 12, -1);
    }

    private static void cores() {
        CHECKS.says("Of a CORE: 0 its CLUSTER, 1 whether it sleeps (1, 0), 2 IDLED, 3 TASKS on it (bits), 4 SPARE. HIDDEN: no such ones.");
        SpeedDesk desk = Checks.chip("cluster a 1 0 0;cluster b 1 0 0;point a 4 1;point b 7 1;task s 4 1;task t 1 1;task u 7 3;task v 4 1;sleep 1");
        desk.move(2, 1);
        desk.move(3, 1);
        CHECKS.says("SPARE of a CORE: SPEED of its CLUSTER's POINT less SHARES on it.");
        CHECKS.row("4 less 5; 7 less 3 and 4", new int[] {desk.core(0, 3), desk.core(0, 4), desk.core(1, 3), desk.core(1, 4)}, 3, -1, 12, 0);
        desk.stop(0);
        desk.stop(3);
        CHECKS.row("less those that are not stopped; all are on it", new int[] {desk.core(0, 3), desk.core(0, 4), desk.core(1, 3), desk.core(1, 4)}, 3, 3, 12, 4);
        desk.stop(1);
        desk.tick(1);
        CHECKS.row("asleep", new int[] {desk.core(0, 1), desk.core(0, 2), desk.core(1, 1), desk.core(1, 2), desk.core(0, 4)}, 1, 1, 0, 0, 4);
        CHECKS.row("no such ones", new int[] {desk.core(2, 0), desk.core(-1, 0), desk.core(0, -1), desk.core(0, 5), desk.core(Integer.MAX_VALUE, 3),
            desk.core(Integer.MIN_VALUE, 3), new SpeedDesk().core(0, 0)}, -1000000, -1000000, -1000000, -1000000, -1000000, -1000000, -1000000);
    }

    private static void tasks() {
        CHECKS.says("Of a TASK: 0 WORK, 1 PERIOD, 2 its CORE, 3 REST, 4 LOAD, 5 LATE, 6 whether STOPPED (1, 0), 7 SHARE. NONE: no such ones.");
        SpeedDesk desk = Checks.chip("cluster a 2 0 0;point a 4 1;task s 9 2;task t 8 3;task u 7 4;task v 6 5");
        desk.move(1, 1);
        desk.tick(3);
        CHECKS.row("the first", new int[] {desk.task(0, 0), desk.task(0, 1), desk.task(0, 2), desk.task(0, 3), desk.task(0, 4), desk.task(0, 5), desk.task(0, 6),
            desk.task(0, 7)}, 9, 2, 0, 5, 338, 1, 0, 5);
        desk.stop(1);
        CHECKS.row("another", new int[] {desk.task(1, 0), desk.task(1, 1), desk.task(1, 2), desk.task(1, 3), desk.task(1, 4), desk.task(1, 5), desk.task(1, 6),
            desk.task(1, 7)}, 8, 3, 1, 0, 210, 0, 1, 0);
        CHECKS.row("no such ones", new int[] {desk.task(4, 0), desk.task(-1, 0), desk.task(0, 8), desk.task(0, -1), desk.task(Integer.MIN_VALUE, 0),
            Checks.chip("cluster a 1 0 0;point a 1 1").task(0, 0), new SpeedDesk().task(0, 0)}, -1, -1, -1, -1, -1, -1, -1);
    }

    // ---- promises 13, 29, 30, 35

    private static void ticks() {
        CHECKS.says("TICKS go by: ENERGY they used. NONE: no CHIP (STATUS 0), not 1 .. 60 (1), TIME would be above 9,999 (3).");
        SpeedDesk desk = new SpeedDesk();
        CHECKS.row("no chip", new int[] {desk.tick(1), desk.tick(0), desk.tick(61), desk.status(0), desk.status(1)}, -1, -1, -1, 3, 0);
        desk = at("cluster a 1 0 0;point a 9 1;task t 2 1", 9939);
        CHECKS.says("By hand: TICKS (1 to 60)");
        int refused = 0;
        for (int n : new int[] {0, 61, -1, 200, Integer.MAX_VALUE, Integer.MIN_VALUE}) {
            refused++;
            CHECKS.row("tick(" + n + ")", new int[] {desk.tick(n), desk.status(1), desk.all(0)}, -1, refused, 9939);
        }
        CHECKS.row("60", new int[] {desk.tick(60), desk.all(0), desk.undo(), desk.tick(1), desk.tick(60), desk.status(3), desk.all(0)}, 120, 9999, 39, 2, -1, 1, 9940);
        CHECKS.row("59, then none", new int[] {desk.tick(59), desk.tick(1), desk.status(3), desk.tick(61), desk.status(1), desk.status(0), desk.status(2)}, 118, -1, 2, -1, 7, 0, 0);
    }

    private static final String THREE = "cluster a 1 0 0;cluster b 1 0 0;cluster c 1 5 0;point a 4 1;point b 4 1;point b 5 1;point c 4 1;point c 5 1;point c 6 1;task t 9 2;cool 2;sleep 20";

    private static void ahead() {
        CHECKS.says("AHEAD n TICKS (0 .. 200): ENERGY then, LATE of all TASKS then, HEAT, the POINT of a CLUSTER.");
        SpeedDesk desk = Checks.chip(THREE);
        Checks.ask(desk, "bob", 1, 1, 1);
        Checks.ask(desk, "bob", 2, 2, 2);
        CHECKS.row("0: as it is", ahead(desk, 0), 0, 0, 0, 0, 0, 0);
        CHECKS.row("1: 4 and 5", ahead(desk, 1), 9, 0, 9, 0, 1, 2);
        CHECKS.row("2", ahead(desk, 2), 18, 0, 14, 0, 1, 2);
        CHECKS.row("3", ahead(desk, 3), 27, 1, 16, 0, 1, 2);
        CHECKS.row("200: the third cluster sleeps behind 20", ahead(desk, 200), 900, 99, 9, 0, 1, 2);
        CHECKS.row("nothing goes by", new int[] {desk.all(0), desk.all(1), desk.all(2), desk.count(3), desk.cluster(2, 4)}, 0, 0, 0, 2, 0);
        CHECKS.says("NONE: no CHIP, out of bounds, TIME would be above 9,999, no such ones.");
        CHECKS.row("out of bounds", new int[] {desk.ahead(-1, 0), desk.ahead(201, 0), desk.ahead(Integer.MAX_VALUE, 0), desk.ahead(Integer.MIN_VALUE, 0)}, -1, -1, -1, -1);
        CHECKS.row("no such ones", new int[] {desk.ahead(1, -1), desk.ahead(1, 6), desk.ahead(1, Integer.MAX_VALUE), desk.ahead(1, Integer.MIN_VALUE)}, -1, -1, -1, -1);
        desk = Checks.chip("cluster a 1 0 0;cluster b 1 0 0;point a 4 1;point b 4 1");
        CHECKS.row("no third cluster", new int[] {desk.ahead(1, 3), desk.ahead(1, 4), desk.ahead(1, 5)}, 0, 0, -1);
        desk = Checks.chip("cluster a 1 0 0;point a 4 1");
        CHECKS.row("no second cluster", new int[] {desk.ahead(1, 3), desk.ahead(1, 4), desk.ahead(1, 5)}, 0, -1, -1);
        CHECKS.row("no chip", ahead(new SpeedDesk(), 0), -1, -1, -1, -1, -1, -1);
    }

    private static int[] ahead(SpeedDesk desk, int n) {
        return new int[] {desk.ahead(n, 0), desk.ahead(n, 1), desk.ahead(n, 2), desk.ahead(n, 3), desk.ahead(n, 4), desk.ahead(n, 5)};
    }

    private static void aheadOfTheLastTime() {
        CHECKS.says("TIME would be above 9,999");
        SpeedDesk desk = at("cluster a 1 0 0;point a 4 1;task t 1 1", 9799);
        CHECKS.row("up to 9,999", new int[] {desk.ahead(200, 0), desk.bound(0, 100)}, 9999, 0);
        desk.tick(1);
        CHECKS.row("above it", new int[] {desk.ahead(200, 0), desk.ahead(200, 3), desk.ahead(199, 0)}, -1, -1, 9999);
        desk.tick(60);
        desk.tick(39);
        CHECKS.row("bound up to it", new int[] {desk.all(0), desk.bound(0, 100)}, 9899, 0);
        desk.tick(1);
        CHECKS.row("bound above it", new int[] {desk.bound(0, 100), desk.bound(0, 99)}, -1, 0);
        desk.tick(60);
        desk.tick(38);
        CHECKS.row("one is left", new int[] {desk.all(0), desk.ahead(1, 0), desk.ahead(2, 0), desk.bound(0, 1), desk.bound(0, 2)}, 9998, 9999, -1, 0, -1);
        desk.tick(1);
        CHECKS.row("none is", new int[] {desk.ahead(0, 0), desk.ahead(1, 0), desk.bound(0, 1)}, 9999, -1, -1);
        CHECKS.row("no status by these", new int[] {desk.status(0), desk.status(1), desk.status(2), desk.status(3)}, 0, 0, 0, 0);
    }

    private static void bound() {
        CHECKS.says("by which no TASK is LATE more often behind these than it is now (none: NONE)");
        SpeedDesk desk = Checks.chip("cluster a 1 0 0;point a 1 1;point a 2 1;point a 4 1;task t 8 4");
        Checks.ask(desk, "bob", 0, 2, 2);
        CHECKS.row("by 1, 2, 4 a tick", new int[] {desk.bound(0, 1), desk.bound(0, 4), desk.bound(0, 5), desk.bound(0, 100)}, 0, 0, 1, 1);
        desk = Checks.chip("cluster a 1 0 0;point a 1 1;point a 2 1;point a 4 1;task t 9 4");
        Checks.ask(desk, "bob", 0, 2, 2);
        CHECKS.due("9 in 4: by 4", desk.bound(0, 5), 2);
        desk = Checks.chip("cluster a 1 0 0;point a 1 1;point a 2 1;point a 4 1;task t 17 4");
        Checks.ask(desk, "bob", 0, 2, 2);
        CHECKS.row("17 in 4: none", new int[] {desk.bound(0, 4), desk.bound(0, 5)}, 0, -1);
        desk.tick(5);
        CHECKS.row("late once already", new int[] {desk.task(0, 5), desk.bound(0, 3), desk.bound(0, 4)}, 1, 0, -1);
        desk = Checks.chip("cluster a 2 0 0;point a 1 1;point a 2 1;point a 4 1;task t 1 4;task u 7 4");
        Checks.ask(desk, "bob", 0, 2, 2);
        desk.move(1, 1);
        CHECKS.due("by no task", desk.bound(0, 5), 1);
        desk = Checks.chip("cluster a 2 0 0;point a 1 1;point a 2 1;point a 4 1;task s 1 4;task t 1 4;task u 1 4;task v 1 4");
        CHECKS.due("by none of four", desk.bound(0, 5), 0);
        desk = Checks.chip("cluster a 2 0 0;point a 1 1;point a 2 1;point a 4 1;task s 1 4;task t 1 4;task u 1 4;task v 2 4");
        Checks.ask(desk, "bob", 0, 2, 2);
        CHECKS.due("by the last of four", desk.bound(0, 5), 1);
        desk = Checks.chip("cluster a 1 0 0;point a 1 1;point a 2 1;task t 2 1");
        desk.tick(1);
        CHECKS.row("late in the next tick whatever is done", new int[] {desk.task(0, 3), desk.bound(0, 1)}, 1, -1);
    }

    private static void boundRefused() {
        CHECKS.says("BOUND. NONE: none, no such CLUSTER, out of bounds, TIME would be above 9,999.");
        SpeedDesk desk = Checks.chip("cluster a 1 0 0;point a 1 1;cluster b 1 0 0;point b 1 1");
        CHECKS.row("within", new int[] {desk.bound(0, 1), desk.bound(0, 100), desk.bound(1, 1), desk.bound(1, 100)}, 0, 0, 0, 0);
        CHECKS.row("out of bounds", new int[] {desk.bound(0, 0), desk.bound(0, 101), desk.bound(0, -1), desk.bound(0, Integer.MAX_VALUE), desk.bound(0, Integer.MIN_VALUE)},
            -1, -1, -1, -1, -1);
        CHECKS.row("no such cluster", new int[] {desk.bound(2, 1), desk.bound(-1, 1), new SpeedDesk().bound(0, 1)}, -1, -1, -1);
    }

    private static void boundByAsks() {
        CHECKS.says("BOUND of a CLUSTER for n TICKS (1 .. 100): the least HIGH, told by one more ASKER (LOW 0; more ASKS than 6 no matter)");
        String chip = "cluster a 1 0 0;point a 1 1;point a 2 1;point a 4 1;task t 8 4;cluster b 1 0 0;point b 1 1";
        SpeedDesk desk = Checks.chip(chip);
        CHECKS.due("LOW 0: the load does not rise the point in time", desk.bound(0, 5), -1);
        Checks.ask(desk, "bob", 0, 1, 2);
        CHECKS.due("by another's LOW", desk.bound(0, 5), 1);
        for (char name = 'a'; name < 'f'; name++) {
            Checks.ask(desk, "" + name, 1, 0, 0);
        }
        CHECKS.row("with six asks", new int[] {desk.count(6), desk.bound(0, 5), desk.bound(1, 5)}, 6, 1, 0);
        CHECKS.row("they stay six", new int[] {desk.count(6), desk.asked(5, 0), desk.asked(6, 0), desk.name(2, 5, 0), desk.cluster(0, 8), desk.count(4)}, 6, 1, -1, 'e', 2, 6);
        desk = Checks.chip(chip);
        Checks.ask(desk, "bob", 0, 0, 0);
        CHECKS.due("another's HIGH counts, too", desk.bound(0, 5), -1);
    }

    private static void all() {
        CHECKS.says("TIME (0), HEAT (1), ENERGY (2), LATE of all TASKS (3), CORES that sleep (4, bits), TASKS that are STOPPED (5, bits), with REST (6, bits)");
        SpeedDesk desk = Checks.chip("cluster a 3 1 0;cluster b 3 1 0;point a 4 1;point b 4 1;task s 9 2;task t 4 4;task u 5 4;task v 5 1;sleep 1;cool 2");
        desk.move(1, 1);
        desk.move(2, 2);
        desk.move(3, 4);
        desk.stop(1);
        desk.tick(1);
        CHECKS.row("behind a tick", new int[] {desk.all(0), desk.all(1), desk.all(2), desk.all(3), desk.all(4), desk.all(5), desk.all(6)},
            1, 18, 18, 0, 2 + 8 + 32, 2, 1 + 4 + 8);
        desk.tick(2);
        CHECKS.row("behind three: 18 and 12, 11", new int[] {desk.all(0), desk.all(1), desk.all(2), desk.all(3), desk.all(4), desk.all(5), desk.all(6)},
            3, 22, 41, 3, 2 + 4 + 8 + 32, 2, 1 + 8);
        CHECKS.says("SHARES of all (9). HIDDEN: no CHIP, no such what.");
        CHECKS.row("5, 0, 2, 5", new int[] {desk.all(9), desk.all(10), desk.all(-1), desk.all(Integer.MAX_VALUE), desk.all(Integer.MIN_VALUE)},
            12, -1000000, -1000000, -1000000, -1000000);
        for (int what = -1; what <= 10; what++) {
            CHECKS.due("no chip", new SpeedDesk().all(what), -1000000);
        }
    }

    private static void allOfSeveral() {
        CHECKS.says("the TASK with the greatest LOAD (7; NONE: there is none), the CORE with most SHARES (8) (of several the lowest, both)");
        SpeedDesk desk = Checks.chip("cluster a 3 0 0;point a 4 1;task s 1 9;task t 4 9;task u 4 9;task v 1 9");
        CHECKS.row("no load: the lowest", new int[] {desk.all(7), desk.all(8)}, 0, 0);
        desk.move(1, 1);
        desk.move(2, 2);
        desk.tick(1);
        CHECKS.row("like loads; 2 shares", new int[] {desk.task(1, 4), desk.task(2, 4), desk.all(7), desk.all(8)}, 128, 128, 1, 0);
        desk.move(0, 2);
        desk.move(3, 1);
        CHECKS.due("0, 2, 2 shares", desk.all(8), 1);
        desk.stop(3);
        CHECKS.due("0, 1, 2 shares", desk.all(8), 2);
        desk.stop(0);
        desk.stop(1);
        desk.stop(2);
        CHECKS.row("none has shares; a stopped one has a load", new int[] {desk.all(8), desk.all(7), desk.all(9)}, 0, 1, 0);
        desk = Checks.chip("cluster a 3 0 0;point a 4 1");
        CHECKS.row("no tasks", new int[] {desk.all(7), desk.all(8), desk.all(9), desk.all(5), desk.all(6), desk.all(3)}, -1, 0, 0, 0, 0, 0);
    }
}
