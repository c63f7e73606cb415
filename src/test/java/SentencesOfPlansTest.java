/**
 * The sentences of the document's Terms 3 that tell ways, races and odds, and of promises 24 to 28 and 31, that
 * name a boundary: each is quoted, and the answers below the quotation would differ if it were broken.
 */
public final class SentencesOfPlansTest {
    private static final Checks CHECKS = new Checks();

    public static void main(String[] args) {
        shares();
        fits();
        fitsByHigh();
        prices();
        pricesByAsks();
        bestOfSeveral();
        bestOfAllWays();
        bestOfNone();
        greedyByShare();
        greedyIsNotBest();
        greedyFails();
        movesToTheNearest();
        movesOneByOne();
        movesOfNone();
        raceOfTheLast();
        raceSlowly();
        raceWhichIsLess();
        raceBounds();
        odds();
        oddsOfThoseStopped();
        oddsOfSeveral();
        apart();
        withoutTasks();
        withoutChip();
        CHECKS.close("SentencesOfPlansTest");
    }

    private static int[] best(SpeedDesk desk) {
        return new int[] {desk.best(0, 0), desk.best(1, 0), desk.best(1, 1), desk.best(1, 2), desk.best(1, 3)};
    }

    private static int[] greedy(SpeedDesk desk) {
        return new int[] {desk.greedy(0, 0), desk.greedy(1, 0), desk.greedy(1, 1), desk.greedy(1, 2), desk.greedy(1, 3)};
    }

    private static int[] race(SpeedDesk desk, int cluster, int work, int ticks) {
        return new int[] {desk.race(cluster, work, ticks, 0), desk.race(cluster, work, ticks, 1), desk.race(cluster, work, ticks, 2)};
    }

    // ---- ways

    private static void shares() {
        CHECKS.says("SHARE of a TASK: WORK by PERIOD, the whole number that is no less (STOPPED: 0).");
        int[][] want = {{1, 1, 1}, {6, 2, 3}, {7, 2, 4}, {1, 20, 1}, {19, 20, 1}, {20, 20, 1}, {21, 20, 2}, {999, 1, 999}, {999, 20, 50}, {980, 20, 49}, {981, 20, 50}};
        for (int[] w : want) {
            SpeedDesk desk = Checks.chip("cluster a 1 0 0;point a 1 1;task t " + w[0] + " " + w[1]);
            CHECKS.row(w[0] + " by " + w[1], new int[] {desk.task(0, 7), desk.all(9), desk.core(0, 4)}, w[2], w[2], 1 - w[2]);
            desk.stop(0);
            CHECKS.row("stopped", new int[] {desk.task(0, 7), desk.all(9), desk.core(0, 4)}, 0, 0, 1);
            desk.start(0);
            CHECKS.row("started", new int[] {desk.task(0, 7), desk.all(9)}, w[2], w[2]);
        }
    }

    private static int priceOf(String tasks) {
        return Checks.chip("cluster a 2 0 0;point a 2 1;point a 5 1;" + tasks).price();
    }

    private static void fits() {
        CHECKS.says("if each CLUSTER has a POINT with a SPEED no less than the greatest sum of SHARES on one of its CORES");
        CHECKS.row("5 fits, 6 does not", new int[] {priceOf("task s 5 1"), priceOf("task s 6 1"), priceOf("task s 2 1;task t 3 1"), priceOf("task s 2 1;task t 4 1")}, 5, -1, 5, -1);
        CHECKS.row("10 by 2, 11 by 2", new int[] {priceOf("task s 10 2"), priceOf("task s 11 2")}, 5, -1);
        SpeedDesk desk = Checks.chip("cluster a 2 0 0;point a 2 1;point a 5 1;cluster b 1 0 0;point b 4 1;task s 5 1;task t 5 1;task u 4 1;task v 1 1");
        desk.move(1, 1);
        desk.move(2, 2);
        desk.stop(3);
        CHECKS.due("each core by itself", desk.price(), 14);
        desk.start(3);
        CHECKS.due("one too much on the first", desk.price(), -1);
        desk.move(3, 1);
        CHECKS.due("on the second", desk.price(), -1);
        desk.move(3, 2);
        CHECKS.due("on the other cluster's", desk.price(), -1);
        desk.stop(3);
        CHECKS.due("one that is stopped is none", desk.price(), 14);
    }

    private static void fitsByHigh() {
        CHECKS.says("no less than the greatest sum of SHARES on one of its CORES, HIGH or less");
        SpeedDesk desk = Checks.chip("cluster a 1 0 0;point a 2 1;point a 4 2;point a 6 3;task s 2 1;task t 2 1;task u 2 1");
        int[][] byHigh = {{-1, -1, 2}, {-1, 8, 2}, {18, 8, 2}};
        for (int high = 0; high < 3; high++) {
            Checks.ask(desk, "bob", 0, 0, high);
            int ofThree = desk.price();
            desk.stop(0);
            int ofTwo = desk.price();
            desk.stop(1);
            CHECKS.row("sums 6, 4, 2 by high " + high, new int[] {ofThree, ofTwo, desk.price()}, byHigh[high]);
            desk.start(0);
            desk.start(1);
        }
        Checks.tape(desk, "cluster a 1 0 0;point a 2 1;point a 4 2;cluster b 1 0 0;point b 9 5;task s 3 1").text(0);
        Checks.ask(desk, "bob", 0, 0, 0);
        CHECKS.row("so best, greedy, moves", new int[] {desk.best(0, 0), desk.best(1, 0), desk.greedy(0, 0), desk.greedy(1, 0), desk.moves()}, 15, 1, 15, 1, 1);
    }

    private static final String MIXED = "cluster a 2 5 0;point a 2 2;point a 4 3;point a 6 7;cluster b 1 4 0;point b 9 1;task s 2 1;task t 1 1;task u 3 1";

    private static void prices() {
        CHECKS.says("its PRICE: of each CLUSTER SHARES of all on it times COST of the first such POINT (LOW at least, then HIGH at most), "
                + "and IDLE for each CORE with a TASK that is not STOPPED.");
        SpeedDesk desk = Checks.chip(MIXED);
        CHECKS.due("6 by 7, 5", desk.price(), 47);
        desk.move(2, 1);
        CHECKS.due("6 by 3, twice 5", desk.price(), 28);
        desk.move(2, 2);
        CHECKS.due("3 by 3, 5; 3 by 1, 4", desk.price(), 21);
        desk.stop(2);
        CHECKS.due("no idle of a core whose task is stopped", desk.price(), 14);
        desk.stop(1);
        CHECKS.due("2 by 2, 5: the other one is not stopped", desk.price(), 9);
        desk.stop(0);
        CHECKS.due("nothing", desk.price(), 0);
        desk.start(1);
        desk.move(1, 2);
        CHECKS.due("1 by 1, 4", desk.price(), 5);
    }

    private static void pricesByAsks() {
        CHECKS.says("(LOW at least, then HIGH at most)");
        SpeedDesk desk = Checks.chip(MIXED);
        desk.stop(1);
        desk.stop(2);
        CHECKS.due("2 by 2, 5", desk.price(), 9);
        Checks.ask(desk, "bob", 0, 0, 2);
        CHECKS.due("low 0", desk.price(), 9);
        Checks.ask(desk, "bob", 0, 1, 2);
        CHECKS.due("low 1", desk.price(), 11);
        Checks.ask(desk, "bob", 0, 2, 2);
        CHECKS.due("low 2", desk.price(), 19);
        Checks.ask(desk, "eve", 0, 0, 1);
        CHECKS.due("low 2, then high 1", desk.price(), 11);
        Checks.ask(desk, "eve", 0, 0, 0);
        CHECKS.due("low 2, then high 0", desk.price(), 9);
        desk.move(0, 2);
        CHECKS.due("2 by 1, 4: nothing of the other", desk.price(), 6);
        CHECKS.says("PRICE of the way it is now. NONE: it does not FIT, no CHIP.");
        desk.move(0, 0);
        desk.start(1);
        CHECKS.row("3 by high 0", new int[] {desk.price(), new SpeedDesk().price()}, -1, -1);
    }

    private static void bestOfSeveral() {
        CHECKS.says("BEST: the least PRICE of all ways that FIT; of several the first (TASK by TASK the lower CORE).");
        CHECKS.row("all are alike", best(Checks.chip("cluster a 3 0 0;point a 9 1;task s 3 1;task t 2 1;task u 4 1")), 9, 0, 0, 0, -1);
        CHECKS.row("the first that fits", best(Checks.chip("cluster a 3 0 0;point a 5 1;task s 3 1;task t 3 1;task u 2 1")), 8, 0, 1, 0, -1);
        CHECKS.row("the later task makes way", best(Checks.chip("cluster a 2 0 0;point a 5 1;task s 3 1;task t 2 1;task u 2 1")), 7, 0, 0, 1, -1);
        CHECKS.row("like clusters", best(Checks.chip("cluster a 1 1 0;cluster b 1 1 0;point a 5 1;point b 5 1;task s 5 1;task t 5 1")), 12, 0, 1, -1, -1);
        CHECKS.row("the lesser price, not the first", best(Checks.chip("cluster a 1 0 0;point a 9 9;cluster b 2 0 0;point b 4 1;task s 4 1;task t 4 1")), 8, 1, 2, -1, -1);
        SpeedDesk desk = Checks.chip("cluster a 1 0 0;point a 9 2;cluster b 1 0 0;point b 9 1;task s 4 1;task t 4 1");
        CHECKS.row("both on the other", best(desk), 8, 1, 1, -1, -1);
        desk.stop(0);
        CHECKS.row("a stopped one on the first", best(desk), 4, 0, 1, -1, -1);
        desk.stop(1);
        CHECKS.row("all are stopped", best(desk), 0, 0, 0, -1, -1);
    }

    private static final String LAST = "cluster a 3 9 0;cluster b 2 9 0;cluster c 1 0 0;point a 9 9;point b 9 9;point c 9 1;task s 1 1;task t 2 1;task u 3 1;task v 3 1";

    private static void bestOfAllWays() {
        CHECKS.says("the least PRICE of all ways that FIT");
        SpeedDesk desk = Checks.chip(LAST);
        CHECKS.row("the last of 1,296", best(desk), 9, 5, 5, 5, 5);
        CHECKS.row("greedy, too", greedy(desk), 9, 5, 5, 5, 5);
        CHECKS.row("each is moved once", new int[] {desk.moves(), desk.settle(), desk.moves(), desk.price()}, 4, 4, 0, 9);
        desk = Checks.chip("cluster c 1 0 0;cluster a 3 9 0;cluster b 2 9 0;point a 9 9;point b 9 9;point c 9 1;task s 1 1;task t 2 1;task u 3 1;task v 3 1");
        for (int t = 0; t < 4; t++) {
            desk.move(t, 5);
        }
        CHECKS.row("the first of 1,296", best(desk), 9, 0, 0, 0, 0);
        CHECKS.row("each is moved once", new int[] {desk.moves(), desk.settle(), desk.moves(), desk.price()}, 4, 4, 0, 9);
    }

    private static void bestOfNone() {
        CHECKS.says("BEST: its PRICE (0), the CORE of a TASK (1). NONE: none FITS, no CHIP, no such ones (of 0 the TASK is not looked at).");
        SpeedDesk desk = Checks.chip("cluster a 3 0 0;point a 5 1;task s 3 1;task t 5 1");
        CHECKS.row("no such task", new int[] {desk.best(1, 2), desk.best(1, -1), desk.best(1, Integer.MAX_VALUE), desk.best(1, Integer.MIN_VALUE)}, -1, -1, -1, -1);
        CHECKS.row("no such what", new int[] {desk.best(2, 0), desk.best(-1, 0), desk.best(Integer.MAX_VALUE, 0)}, -1, -1, -1);
        CHECKS.row("the task is not looked at", new int[] {desk.best(0, 2), desk.best(0, -1), desk.best(0, Integer.MIN_VALUE)}, 8, 8, 8);
        CHECKS.row("6 fits nowhere", best(Checks.chip("cluster a 3 0 0;point a 5 1;task s 1 1;task t 6 1")), -1, -1, -1, -1, -1);
        CHECKS.row("four for three", best(Checks.chip("cluster a 3 0 0;point a 5 1;task s 3 1;task t 3 1;task u 3 1;task v 3 1")), -1, -1, -1, -1, -1);
        CHECKS.row("no chip", best(new SpeedDesk()), -1, -1, -1, -1, -1);
    }

    private static void greedyByShare() {
        CHECKS.says("GREEDY: TASKS by SHARE falling (of like ones the lower), one by one, each on the CORE by which PRICE of those put so far is least (of several the lowest; it must FIT).");
        CHECKS.row("3 first, then 2, then 2", greedy(Checks.chip("cluster a 1 0 0;point a 4 1;cluster b 1 0 0;point b 4 1;task s 2 1;task t 2 1;task u 3 1")), 7, 1, 1, 0, -1);
        CHECKS.row("of like ones the lower", greedy(Checks.chip("cluster a 1 0 0;point a 2 1;cluster b 1 0 0;point b 2 5;task s 2 1;task t 2 1")), 12, 0, 1, -1, -1);
        CHECKS.row("by share, not by work", greedy(Checks.chip("cluster a 1 0 0;point a 2 1;cluster b 1 0 0;point b 2 5;task s 20 20;task t 2 1")), 7, 1, 0, -1, -1);
        CHECKS.row("of several cores the lowest", greedy(Checks.chip("cluster a 3 0 0;point a 9 1;task s 1 1;task t 2 1;task u 3 1")), 6, 0, 0, 0, -1);
        CHECKS.row("the cheaper, though higher", greedy(Checks.chip("cluster a 1 9 0;point a 9 1;cluster b 1 0 0;point b 9 1;task s 1 1;task t 2 1")), 3, 1, 1, -1, -1);
        CHECKS.row("it must fit", greedy(Checks.chip("cluster a 1 0 0;point a 2 1;cluster b 1 0 0;point b 9 9;task s 3 1;task t 2 1")), 29, 1, 0, -1, -1);
        SpeedDesk desk = Checks.chip("cluster a 1 0 0;point a 9 2;cluster b 1 0 0;point b 9 1;task s 4 1;task t 4 1");
        desk.stop(0);
        CHECKS.row("a stopped one last, on the lowest", greedy(desk), 4, 0, 1, -1, -1);
    }

    private static void greedyIsNotBest() {
        CHECKS.says("each on the CORE by which PRICE of those put so far is least");
        SpeedDesk desk = Checks.chip("cluster a 1 0 0;point a 4 1;cluster b 1 0 0;point b 4 2;task s 3 1;task t 2 1;task u 2 1");
        CHECKS.row("3 on the cheap one", greedy(desk), 11, 0, 1, 1, -1);
        CHECKS.row("twice 2 on it", best(desk), 10, 1, 0, 0, -1);
        desk = Checks.chip("cluster a 2 3 0;point a 2 1;point a 4 2;task s 2 1;task t 2 1");
        CHECKS.row("8 and 3 on one core, 4 and 6 on two", greedy(desk), 10, 0, 1, -1, -1);
        CHECKS.says("GREEDY: likewise. NONE: as there; one can't be put.");
        CHECKS.row("no such ones", new int[] {desk.greedy(1, 2), desk.greedy(1, -1), desk.greedy(2, 0), desk.greedy(-1, 0), desk.greedy(1, Integer.MAX_VALUE),
            desk.greedy(Integer.MIN_VALUE, 0)}, -1, -1, -1, -1, -1, -1);
        CHECKS.row("the task is not looked at", new int[] {desk.greedy(0, 2), desk.greedy(0, -1)}, 10, 10);
    }

    private static void greedyFails() {
        CHECKS.says("NONE: as there; one can't be put.");
        SpeedDesk desk = Checks.chip("cluster a 1 0 0;point a 3 2;cluster b 1 0 0;point b 4 1;task s 2 1;task t 3 1;task u 2 1");
        CHECKS.row("3 on 4, 2 on 3, then one is left", greedy(desk), -1, -1, -1, -1, -1);
        CHECKS.row("some way fits", best(desk), 10, 1, 0, 1, -1);
        CHECKS.row("none fits", greedy(Checks.chip("cluster a 3 0 0;point a 5 1;task s 1 1;task t 6 1")), -1, -1, -1, -1, -1);
        CHECKS.row("no chip", greedy(new SpeedDesk()), -1, -1, -1, -1, -1);
    }

    // ---- moves

    private static void movesToTheNearest() {
        CHECKS.says("MOVES: the fewest TASKS moved one behind the other");
        SpeedDesk desk = Checks.chip("cluster a 2 3 0;point a 9 1;task s 1 1;task t 1 1;task u 1 1");
        CHECKS.row("all on the first", new int[] {desk.moves(), desk.price()}, 0, 6);
        desk.move(0, 1);
        CHECKS.row("one back", new int[] {desk.moves(), desk.price()}, 1, 9);
        desk.move(1, 1);
        CHECKS.due("the third to the two", desk.moves(), 1);
        desk.move(2, 1);
        CHECKS.row("a way of price best, not the first", new int[] {desk.moves(), desk.best(1, 0), desk.price()}, 0, 0, 6);
        CHECKS.says("to a way of PRICE BEST (how it is now need not FIT)");
        desk = Checks.chip("cluster a 3 0 0;point a 5 1;task s 3 1;task t 3 1;task u 2 1");
        CHECKS.row("8 on one: one is moved, then it fits", new int[] {desk.price(), desk.moves()}, -1, 1);
        desk = Checks.chip("cluster a 2 0 0;point a 6 1;cluster b 1 0 0;point b 1 1;task s 3 1;task t 3 1;task u 2 1;task v 1 1");
        CHECKS.row("9 on 6: one is moved", new int[] {desk.price(), desk.moves()}, -1, 1);
        desk.move(0, 2);
        CHECKS.row("3 on 1: it is moved", new int[] {desk.price(), desk.moves()}, -1, 1);
        desk.move(1, 2);
        CHECKS.row("6 on 1: no one move makes it fit", new int[] {desk.price(), desk.moves()}, -1, -1);
    }

    private static void movesOneByOne() {
        CHECKS.says("each way between FITTING, too, from as it is");
        String third = ";cluster c 1 0 0;point c 6 9";
        String two = "cluster a 1 0 0;point a 6 1;cluster b 1 0 0;point b 9 3";
        SpeedDesk desk = Checks.chip(two + third + ";task t 6 1;task u 5 1");
        desk.move(0, 1);
        CHECKS.row("they change places by the third", new int[] {desk.price(), desk.best(0, 0), desk.moves(), desk.settle(), desk.moves()}, 23, 21, 3, 2, 0);
        desk = Checks.chip(two + ";task t 6 1;task u 5 1");
        desk.move(0, 1);
        CHECKS.row("there is no third: no such row", new int[] {desk.price(), desk.best(0, 0), desk.moves(), desk.settle(), desk.moves()}, 23, 21, -1, 2, 0);
        desk = Checks.chip(two + ";task t 6 1;task u 3 1");
        desk.move(0, 1);
        CHECKS.row("6 and 3 fit on one", new int[] {desk.price(), desk.best(0, 0), desk.moves()}, 21, 15, 2);
        desk = Checks.chip(two + ";task t 6 1;task u 4 1");
        desk.move(0, 1);
        CHECKS.row("6 and 4 do not", new int[] {desk.price(), desk.best(0, 0), desk.moves()}, 22, 18, -1);
    }

    private static void movesOfNone() {
        CHECKS.says("MOVES. NONE: none FITS, no such row, no CHIP.");
        SpeedDesk desk = Checks.chip("cluster a 2 0 0;point a 5 1;task s 1 1;task t 6 1");
        CHECKS.row("none fits", new int[] {desk.moves(), new SpeedDesk().moves()}, -1, -1);
        desk = Checks.chip("cluster a 3 0 0;point a 5 1;task s 3 1;task t 3 1;task u 5 1");
        CHECKS.due("11 on one: no way of one move fits", desk.moves(), -1);
        desk.move(1, 1);
        CHECKS.due("8 on one: one fits", desk.moves(), 1);
    }

    // ---- races

    private static final String RACING = "cluster a 1 4 0;point a 2 1;point a 5 2;point a 10 3;cluster b 1 0 0;point b 3 7;point b 6 7;sleep 3";

    private static void raceOfTheLast() {
        CHECKS.says("by its last POINT: COST times w, and IDLE for as many TICKS as it takes, and sleep, n at most");
        SpeedDesk desk = Checks.chip(RACING);
        int[][] want = {{20, 10, 60 + 4 * 5}, {21, 10, 63 + 4 * 6}, {21, 6, 63 + 4 * 6}, {21, 5, 63 + 4 * 5}, {21, 3, 63 + 4 * 3}, {21, 2, -1}, {20, 2, 60 + 4 * 2},
            {1, 1, 3 + 4}, {1, 4, 3 + 16}, {1, 5, 3 + 16}, {1, 99, 3 + 16}, {10, 1, 30 + 4}, {11, 1, -1}, {990, 99, 2970 + 4 * 99}, {991, 99, -1}, {961, 99, 2883 + 4 * 99},
            {960, 99, 2880 + 4 * 99}, {950, 99, 2850 + 4 * 98}};
        for (int[] w : want) {
            CHECKS.due(w[0] + " in " + w[1], desk.race(0, w[0], w[1], 0), w[2]);
        }
    }

    private static void raceSlowly() {
        CHECKS.says("slowly: by the first POINT by which w is done in n TICKS: COST times w, and IDLE for n TICKS");
        SpeedDesk desk = Checks.chip(RACING);
        int[][] want = {{20, 10, 20 + 40}, {21, 10, 42 + 40}, {50, 10, 100 + 40}, {51, 10, 153 + 40}, {100, 10, 300 + 40}, {101, 10, -1}, {1, 1, 1 + 4}, {2, 1, 2 + 4}, {3, 1, 6 + 4},
            {198, 99, 198 + 396}, {199, 99, 398 + 396}, {990, 99, 2970 + 396}, {991, 99, -1}};
        for (int[] w : want) {
            CHECKS.due(w[0] + " in " + w[1], desk.race(0, w[0], w[1], 1), w[2]);
        }
        CHECKS.says("(by HIGH no matter; not done in time: NONE)");
        Checks.ask(desk, "bob", 0, 0, 0);
        CHECKS.row("high 0", race(desk, 0, 51, 10), 153 + 36, 153 + 40, 0);
    }

    private static void raceWhichIsLess() {
        CHECKS.says("which is less (0 to race, also if they are like, 1 slowly)");
        SpeedDesk desk = Checks.chip(RACING);
        CHECKS.row("slowly", race(desk, 0, 20, 10), 80, 60, 1);
        CHECKS.row("like ones", race(desk, 0, 100, 10), 340, 340, 0);
        CHECKS.row("to race", race(desk, 0, 1, 99), 19, 397, 0);
        CHECKS.row("like ones without idle", race(desk, 1, 9, 3), 63, 63, 0);
        CHECKS.row("60 and 6 by 4: 84; 40 and 4 by n", race(desk, 0, 20, 11), 80, 64, 1);
        CHECKS.row("80, 80", race(desk, 0, 20, 15), 80, 80, 0);
        CHECKS.row("80, 84", race(desk, 0, 20, 16), 80, 84, 0);
        CHECKS.row("80, 76", race(desk, 0, 20, 14), 80, 76, 1);
        CHECKS.row("neither is done", race(desk, 0, 101, 10), -1, -1, -1);
    }

    private static void raceBounds() {
        CHECKS.says("RACE on a CLUSTER, of work w (1 .. 9,999) in n TICKS (1 .. 99)");
        CHECKS.says("RACE: 0 by the last POINT, 1 slowly (NONE: not done in time), 2 which is less (NONE: neither is done). HIDDEN: no such CLUSTER, out of bounds.");
        SpeedDesk desk = Checks.chip("cluster a 1 99 0;point a 99 99");
        CHECKS.row("9,801 in 99", race(desk, 0, 9801, 99), 980100, 980100, 0);
        CHECKS.row("9,802 in 99", race(desk, 0, 9802, 99), -1, -1, -1);
        CHECKS.row("9,999 in 99", race(desk, 0, 9999, 99), -1, -1, -1);
        CHECKS.row("1 in 1", race(desk, 0, 1, 1), 198, 198, 0);
        int[][] refused = {{1, 1, 1}, {-1, 1, 1}, {Integer.MAX_VALUE, 1, 1}, {0, 0, 1}, {0, 10000, 1}, {0, -1, 1}, {0, 1, 0}, {0, 1, 100}, {0, 1, -1},
            {0, Integer.MAX_VALUE, 99}, {0, Integer.MIN_VALUE, 99}, {0, 1, Integer.MAX_VALUE}, {0, 1, Integer.MIN_VALUE}, {0, 10000, 99}};
        for (int[] r : refused) {
            CHECKS.row(r[0] + ", " + r[1] + ", " + r[2], race(desk, r[0], r[1], r[2]), -1000000, -1000000, -1000000);
        }
        CHECKS.row("no such what", new int[] {desk.race(0, 1, 1, 3), desk.race(0, 1, 1, -1), desk.race(0, 1, 1, Integer.MAX_VALUE)}, -1000000, -1000000, -1000000);
        CHECKS.row("no chip", race(new SpeedDesk(), 0, 1, 1), -1000000, -1000000, -1000000);
    }

    // ---- odds

    private static void odds() {
        CHECKS.says("ODDS by a chance (0 .. 100): of 10 to the 9 parts");
        SpeedDesk desk = Checks.chip("cluster a 1 0 0;point a 5 1;task s 3 1;task t 3 1");
        CHECKS.row("both do not fit", new int[] {desk.odds(0), desk.odds(1), desk.odds(10), desk.odds(99), desk.odds(100)}, 0, 19900000, 190000000, 999900000, 1000000000);
        desk = Checks.chip("cluster a 1 0 0;point a 5 1;task s 5 1");
        CHECKS.row("one fits, stopped or not", new int[] {desk.odds(0), desk.odds(50), desk.odds(100)}, 1000000000, 1000000000, 1000000000);
        desk = Checks.chip("cluster a 1 0 0;point a 5 1;task s 6 1");
        CHECKS.row("one does not", new int[] {desk.odds(0), desk.odds(1), desk.odds(50), desk.odds(99), desk.odds(100)}, 0, 10000000, 500000000, 990000000, 1000000000);
        CHECKS.says("ODDS. NONE: no CHIP, out of bounds.");
        CHECKS.row("out of bounds", new int[] {desk.odds(-1), desk.odds(101), desk.odds(Integer.MAX_VALUE), desk.odds(Integer.MIN_VALUE)}, -1, -1, -1, -1);
        CHECKS.row("no chip", new int[] {new SpeedDesk().odds(0), new SpeedDesk().odds(100)}, -1, -1);
    }

    private static void oddsOfThoseStopped() {
        CHECKS.says("each STOPPED by that chance, by itself (those STOPPED are; of each part chance 100ths, cut): by how many some way FITS");
        SpeedDesk desk = Checks.chip("cluster a 1 0 0;point a 5 1;task s 3 1;task t 3 1;task u 6 1");
        CHECKS.row("u, and s or t", new int[] {desk.odds(0), desk.odds(50), desk.odds(10), desk.odds(100)}, 0, 375000000, 19000000, 1000000000);
        desk.stop(2);
        CHECKS.row("u is", new int[] {desk.odds(0), desk.odds(50), desk.odds(10)}, 0, 750000000, 190000000);
        desk.stop(0);
        CHECKS.row("u and s are", new int[] {desk.odds(0), desk.odds(50), desk.odds(10)}, 1000000000, 1000000000, 1000000000);
        desk.start(2);
        CHECKS.row("s is", new int[] {desk.odds(0), desk.odds(50), desk.odds(10)}, 0, 500000000, 100000000);
        desk.stop(1);
        desk.stop(2);
        CHECKS.row("all are", new int[] {desk.odds(0), desk.odds(37)}, 1000000000, 1000000000);
        desk = Checks.chip("cluster a 1 0 0;point a 2 1;point a 5 1;task s 3 1");
        CHECKS.due("by the second point", desk.odds(33), 1000000000);
        Checks.ask(desk, "bob", 0, 0, 0);
        CHECKS.row("by high", new int[] {desk.odds(0), desk.odds(33), desk.all(5)}, 0, 330000000, 0);
    }

    private static void oddsOfSeveral() {
        CHECKS.says("TASKS rising, each STOPPED by that chance, by itself");
        SpeedDesk desk = Checks.chip("cluster a 1 0 0;point a 1 1;task s 2 1;task t 2 1;task u 2 1;task v 2 1");
        CHECKS.row("all four", new int[] {desk.odds(0), desk.odds(1), desk.odds(2), desk.odds(33), desk.odds(99), desk.odds(100)}, 0, 10, 160, 11859210, 960596010, 1000000000);
        desk = Checks.chip("cluster a 1 0 0;point a 3 1;task s 1 1;task t 1 1;task u 1 1;task v 1 1");
        CHECKS.row("one of four", new int[] {desk.odds(0), desk.odds(1), desk.odds(50), desk.odds(99)}, 0, 39403990, 937500000, 999999990);
        desk = Checks.chip("cluster a 2 0 0;point a 3 1;task s 3 1;task t 3 1;task u 1 1");
        CHECKS.row("s, t or u", new int[] {desk.odds(10), desk.odds(50)}, 271000000, 875000000);
    }

    // ---- all of these

    private static void apart() {
        CHECKS.says("(Apart, from as it is now.)");
        SpeedDesk desk = Checks.chip(MIXED);
        desk.move(2, 1);
        desk.tick(3);
        int[] before = {desk.price(), desk.all(0), desk.all(2), desk.task(2, 2), desk.all(5), desk.count(3), desk.count(4)};
        int[] told = {desk.best(0, 0), desk.greedy(0, 0), desk.moves(), desk.race(0, 5, 5, 0), desk.odds(50), desk.ahead(9, 0), desk.bound(0, 9)};
        CHECKS.row("nothing changes", new int[] {desk.price(), desk.all(0), desk.all(2), desk.task(2, 2), desk.all(5), desk.count(3), desk.count(4)}, before);
        CHECKS.row("nor do the answers", new int[] {desk.best(0, 0), desk.greedy(0, 0), desk.moves(), desk.race(0, 5, 5, 0), desk.odds(50), desk.ahead(9, 0), desk.bound(0, 9)}, told);
        CHECKS.row("no status", new int[] {desk.status(0), desk.status(1), desk.status(2), desk.status(3)}, 0, 0, 0, 0);
    }

    private static void withoutTasks() {
        CHECKS.says("4 TASKS, 6 CORES in all at most; one CLUSTER at least");
        SpeedDesk desk = Checks.chip("cluster a 3 9 9;point a 5 1");
        CHECKS.row("none costs nothing", new int[] {desk.price(), desk.best(0, 0), desk.best(1, 0), desk.greedy(0, 0), desk.greedy(1, 0), desk.moves(), desk.odds(50)},
            0, 0, -1, 0, -1, 0, 1000000000);
    }

    private static void withoutChip() {
        CHECKS.says("no CHIP");
        SpeedDesk desk = new SpeedDesk();
        CHECKS.row("none", new int[] {desk.price(), desk.best(0, 0), desk.best(1, 0), desk.greedy(0, 0), desk.greedy(1, 0), desk.moves(), desk.odds(0), desk.race(0, 1, 1, 0)},
            -1, -1, -1, -1, -1, -1, -1, -1000000);
        CHECKS.row("no status", new int[] {desk.status(0), desk.status(1), desk.status(2), desk.status(3)}, 0, 0, 0, 0);
    }
}
