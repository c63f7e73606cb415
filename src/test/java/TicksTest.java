/** Promises 6 to 10, 13, 29, 30 and 35: what is told of a chip, and what ticks do to it. */
public final class TicksTest {
    private static final Checks CHECKS = new Checks();

    public static void main(String[] args) {
        rules();
        factsOfClusters();
        pointsAndCores();
        tasksTold();
        refusedTicks();
        fallingBehindAHold();
        risingAtOnce();
        urgentFirst();
        waking();
        boosting();
        heating();
        lowAboveHigh();
        lateness();
        lookingAhead();
        bounds();
        allFacts();
        CHECKS.close("TicksTest");
    }

    private static int[] cluster(SpeedDesk desk, int cluster) {
        return new int[] {desk.cluster(cluster, 4), desk.cluster(cluster, 5), desk.cluster(cluster, 6)};
    }

    private static int[] task(SpeedDesk desk, int task) {
        return new int[] {desk.task(task, 3), desk.task(task, 4), desk.task(task, 5)};
    }

    private static void rules() {
        SpeedDesk desk = Checks.chip("cluster a 2 1 5;point a 4 2;point a 8 3;cluster b 3 0 0;point b 7 1");
        CHECKS.row("rules without", new int[] {desk.rule(0), desk.rule(1), desk.rule(2), desk.rule(3), desk.rule(4), desk.rule(5),
            desk.rule(6), desk.rule(7), desk.rule(8), desk.rule(-1)}, 25, 3, 2, 0, 9999, 8, 8, 5, -1, -1);
        desk = Checks.chip("cool 2;limit 1;boost 9;sleep 20;hold 0;margin 100;cluster a 2 1 5;point a 4 2;cluster b 3 0 0;point b 7 1");
        CHECKS.row("rules told", new int[] {desk.rule(0), desk.rule(1), desk.rule(2), desk.rule(3), desk.rule(4), desk.rule(5),
            desk.rule(6), desk.rule(7)}, 100, 0, 20, 9, 1, 2, 7, 5);
    }

    private static void factsOfClusters() {
        SpeedDesk desk = new SpeedDesk();
        CHECKS.clusterThrows(desk, 0, 0);
        desk = Checks.chip("cluster a 2 1 5;point a 4 2;point a 8 3;cluster b 3 7 9;point b 7 1");
        int[][] want = {{2, 1, 5, 2, 0, 0, 0, 0, 1, 0, 0}, {3, 7, 9, 1, 0, 0, 0, 0, 0, 0, 0}};
        for (int cluster = 0; cluster < 2; cluster++) {
            for (int what = 0; what <= 10; what++) {
                CHECKS.due("cluster(" + cluster + ", " + what + ")", desk.cluster(cluster, what), want[cluster][what]);
            }
            CHECKS.clusterThrows(desk, cluster, 11);
            CHECKS.clusterThrows(desk, cluster, -1);
        }
        CHECKS.clusterThrows(desk, 2, 0);
        CHECKS.clusterThrows(desk, -1, 0);
        CHECKS.clusterThrows(desk, Integer.MAX_VALUE, 4);
    }

    private static void pointsAndCores() {
        SpeedDesk desk = Checks.chip("cluster a 2 1 5;point a 4 2;point a 8 3;cluster b 1 7 9;point b 7 1;task t 9 2;task u 3 1");
        CHECKS.row("points", new int[] {desk.point(0, 0, 0), desk.point(0, 0, 1), desk.point(0, 1, 0), desk.point(0, 1, 1),
            desk.point(1, 0, 0), desk.point(1, 0, 1)}, 4, 2, 8, 3, 7, 1);
        CHECKS.row("no such points", new int[] {desk.point(0, 2, 0), desk.point(1, 1, 0), desk.point(2, 0, 0), desk.point(-1, 0, 0),
            desk.point(0, -1, 0), desk.point(0, 0, 2), desk.point(0, 0, -1)}, -1, -1, -1, -1, -1, -1, -1);
        desk.move(1, 2);
        CHECKS.row("clusters of cores", new int[] {desk.core(0, 0), desk.core(1, 0), desk.core(2, 0)}, 0, 0, 1);
        CHECKS.row("tasks on cores", new int[] {desk.core(0, 3), desk.core(1, 3), desk.core(2, 3)}, 1, 0, 2);
        CHECKS.row("spare of cores", new int[] {desk.core(0, 4), desk.core(1, 4), desk.core(2, 4)}, -1, 4, 4);
        desk.stop(0);
        CHECKS.row("spare with one stopped", new int[] {desk.core(0, 4), desk.core(0, 3)}, 4, 1);
        CHECKS.row("no such cores", new int[] {desk.core(3, 0), desk.core(-1, 0), desk.core(0, 5), desk.core(0, -1), desk.core(6, 2)},
            -1000000, -1000000, -1000000, -1000000, -1000000);
    }

    private static void tasksTold() {
        SpeedDesk desk = Checks.chip("cluster a 1 0 0;point a 4 1;task t 9 4;task u 8 4;task v 999 1;task w 1 20");
        CHECKS.row("of the first", new int[] {desk.task(0, 0), desk.task(0, 1), desk.task(0, 2), desk.task(0, 3), desk.task(0, 4),
            desk.task(0, 5), desk.task(0, 6), desk.task(0, 7)}, 9, 4, 0, 0, 0, 0, 0, 3);
        CHECKS.row("shares", new int[] {desk.task(1, 7), desk.task(2, 7), desk.task(3, 7)}, 2, 999, 1);
        CHECKS.row("no such ones", new int[] {desk.task(4, 0), desk.task(-1, 0), desk.task(0, 8), desk.task(0, -1)}, -1, -1, -1, -1);
    }

    private static void refusedTicks() {
        SpeedDesk desk = new SpeedDesk();
        CHECKS.row("without a chip", new int[] {desk.tick(1), desk.tick(0), desk.status(0), desk.status(1)}, -1, -1, 2, 0);
        Checks.tape(desk, "cluster a 1 0 0;point a 4 1").text(0);
        CHECKS.row("out of bounds", new int[] {desk.tick(0), desk.tick(61), desk.tick(-1), desk.tick(Integer.MAX_VALUE), desk.status(1)},
            -1, -1, -1, -1, 4);
        for (int i = 0; i < 166; i++) {
            desk.tick(60);
        }
        CHECKS.due("time", desk.all(0), 9960);
        CHECKS.row("too far", new int[] {desk.tick(40), desk.status(3), desk.tick(39), desk.all(0), desk.tick(1), desk.status(3),
            desk.tick(61), desk.status(1)}, -1, 1, 0, 9999, -1, 2, -1, 5);
        CHECKS.row("ahead of the last time", new int[] {desk.ahead(0, 0), desk.ahead(1, 0), desk.bound(0, 1)}, 0, -1, -1);
        desk.undo();
        CHECKS.row("up to the last time", new int[] {desk.all(0), desk.ahead(39, 0), desk.ahead(40, 0), desk.bound(0, 39), desk.bound(0, 40)},
            9960, 0, -1, 0, -1);
    }

    /** hold 2: the point falls one by one, each behind two ticks; loads fade; a core sleeps and wakes. */
    private static void fallingBehindAHold() {
        SpeedDesk desk = Checks.chip("cluster a 1 1 5;point a 1 1;point a 4 2;point a 8 5;task t 3 4;hold 2");
        Checks.ask(desk, "bob", 0, 2, 2);
        CHECKS.due("tick 1: 3 units of 5, idle 1", desk.tick(1), 16);
        CHECKS.row("cluster 1", cluster(desk, 0), 2, 1, 0);
        CHECKS.row("task 1", task(desk, 0), 0, 48, 0);
        Checks.drop(desk, "bob", 0);
        CHECKS.due("tick 2", desk.tick(1), 1);
        CHECKS.row("cluster 2", cluster(desk, 0), 2, 2, 0);
        CHECKS.row("core 2", new int[] {desk.core(0, 1), desk.core(0, 2), desk.task(0, 4)}, 0, 1, 42);
        CHECKS.due("tick 3", desk.tick(1), 1);
        CHECKS.row("cluster 3", cluster(desk, 0), 1, 0, 0);
        CHECKS.row("core 3", new int[] {desk.core(0, 1), desk.core(0, 2), desk.task(0, 4)}, 1, 2, 36);
        CHECKS.due("tick 4, asleep", desk.tick(1), 0);
        CHECKS.row("cluster 4", cluster(desk, 0), 1, 1, 0);
        CHECKS.row("core 4: it did nothing once more", new int[] {desk.core(0, 1), desk.core(0, 2), desk.task(0, 4)}, 1, 3, 31);
        CHECKS.due("tick 5: wake 5, 3 units of 2, idle 1", desk.tick(1), 12);
        CHECKS.row("cluster 5", cluster(desk, 0), 1, 2, 0);
        CHECKS.row("core 5", new int[] {desk.core(0, 1), desk.core(0, 2), desk.task(0, 4)}, 0, 0, 75);
        CHECKS.due("tick 6", desk.tick(1), 1);
        CHECKS.row("cluster 6", cluster(desk, 0), 0, 0, 0);
        CHECKS.row("time, energy", new int[] {desk.all(0), desk.all(2)}, 6, 31);
    }

    /** The load nears 3 of 8 units while the point is as slow as that; the margin lets it ask for more. */
    private static void risingAtOnce() {
        SpeedDesk desk = Checks.chip("cluster a 2 0 0;point a 3 1;point a 4 1;point a 8 1;task t 999 20;task u 999 20;hold 20");
        desk.tick(12);
        CHECKS.row("304 times 8, times 125, by 102,400: 2.97", new int[] {desk.task(0, 4), desk.cluster(0, 9), desk.cluster(0, 10)}, 304, 3, 0);
        desk.tick(1);
        CHECKS.row("314 times 8, times 125, by 102,400: 3.07", new int[] {desk.task(0, 4), desk.cluster(0, 9), desk.cluster(0, 10),
            desk.cluster(0, 4), desk.cluster(0, 5)}, 314, 4, 1, 0, 13);
        desk.tick(1);
        CHECKS.row("risen at once", cluster(desk, 0), 1, 0, 0);
        CHECKS.row("margin 0", needAndWant("margin 0"), 3, 0);
        CHECKS.row("margin 100", needAndWant("margin 100"), 6, 2);
        desk = Checks.chip("cluster a 1 0 0;point a 1 1;point a 2 1;cluster b 1 0 0;point b 99 1;task t 999 1;task u 999 1;margin 100");
        desk.move(0, 1);
        desk.tick(20);
        desk.move(0, 0);
        CHECKS.row("no point is so fast: the last", new int[] {desk.cluster(0, 9), desk.cluster(0, 10), desk.cluster(1, 9)}, 185, 1, 0);
    }

    private static int[] needAndWant(String margin) {
        SpeedDesk desk = Checks.chip("cluster a 2 0 0;point a 3 1;point a 4 1;point a 8 1;task t 999 20;task u 999 20;" + margin);
        Checks.ask(desk, "bob", 0, 0, 0);
        desk.tick(60);
        return new int[] {desk.cluster(0, 9), desk.cluster(0, 10)};
    }

    /** The task whose period ends first is worked at first, of like ones the lower. */
    private static void urgentFirst() {
        SpeedDesk desk = Checks.chip("cluster a 1 0 0;point a 4 1;task s 3 6;task t 3 3;task u 3 2;task v 3 3");
        Checks.ask(desk, "bob", 0, 0, 0);
        desk.tick(1);
        CHECKS.row("time 0: u 2, t 3, v 3, s 6 left", rests(desk), 3, 2, 0, 3);
        desk.tick(1);
        CHECKS.row("time 1: t 2, v 2 left", rests(desk), 3, 0, 0, 1);
        desk.tick(1);
        CHECKS.row("time 2: v 1, u 2, s 4 left", rests(desk), 3, 0, 0, 0);
        desk.tick(1);
        CHECKS.row("time 3: u 1; s, t, v 3 left, the lower first", rests(desk), 0, 2, 0, 3);
    }

    private static int[] rests(SpeedDesk desk) {
        return new int[] {desk.task(0, 3), desk.task(1, 3), desk.task(2, 3), desk.task(3, 3)};
    }

    private static void waking() {
        SpeedDesk desk = Checks.chip("cluster a 2 3 10;point a 4 1;cluster b 1 1 7;point b 9 2;task s 2 4;task t 2 4;task u 2 4;sleep 1");
        desk.move(1, 1);
        desk.move(2, 2);
        CHECKS.due("all are awake first", desk.tick(1), 2 + 3 + 2 + 3 + 4 + 1);
        CHECKS.due("nobody sleeps", desk.all(4), 0);
        CHECKS.due("nothing to do", desk.tick(1), 7);
        CHECKS.due("all sleep", desk.all(4), 7);
        CHECKS.due("asleep", desk.tick(2), 0);
        desk.stop(1);
        CHECKS.due("two wake", desk.tick(1), 10 + 2 + 3 + 7 + 4 + 1);
        CHECKS.due("one sleeps", desk.all(4), 2);
        desk.tick(1);
        desk.move(0, 1);
        CHECKS.due("a task without rest wakes none", desk.tick(1), 0);
        desk.start(1);
        desk.move(1, 0);
        CHECKS.due("started: nothing until its period", desk.tick(1), 0);
        CHECKS.due("then all", desk.tick(1), 10 + 2 + 3 + 10 + 2 + 3 + 7 + 4 + 1);
    }

    private static void boosting() {
        SpeedDesk desk = Checks.chip("cluster a 1 0 0;point a 1 1;point a 4 2;point a 8 5;cluster b 1 0 0;point b 1 1;point b 2 1;"
            + "task t 1 4;sleep 2;boost 2;hold 0");
        desk.tick(4);
        CHECKS.row("no boost ahead of a waking", cluster(desk, 0), 0, 4, 0);
        CHECKS.due("woken: one unit by the last point", desk.tick(1), 5);
        CHECKS.row("boosted", cluster(desk, 0), 2, 0, 1);
        CHECKS.due("want with a boost", desk.cluster(0, 10), 2);
        CHECKS.row("the other is not", cluster(desk, 1), 0, 5, 0);
        desk.tick(1);
        CHECKS.row("the last boost", cluster(desk, 0), 2, 1, 0);
        CHECKS.due("want without", desk.cluster(0, 10), 0);
        desk.tick(1);
        CHECKS.row("falling with hold 0", cluster(desk, 0), 1, 0, 0);
    }

    private static void heating() {
        SpeedDesk desk = Checks.chip("cluster a 1 0 0;point a 1 1;point a 2 1;point a 3 1;task t 99 20;limit 3;cool 2;hold 9");
        Checks.ask(desk, "bob", 0, 2, 2);
        CHECKS.due("3 units", desk.tick(1), 3);
        CHECKS.row("heat at the limit", new int[] {desk.all(1), desk.cluster(0, 4)}, 3, 2);
        CHECKS.due("3 more: 3 is not above 3", desk.tick(1), 3);
        CHECKS.row("heat 3 + 3 - 1", new int[] {desk.all(1), desk.cluster(0, 4)}, 5, 2);
        CHECKS.due("one point less", desk.tick(1), 2);
        CHECKS.row("heat 5 + 2 - 2, held stays", new int[] {desk.all(1), desk.cluster(0, 4), desk.cluster(0, 5)}, 5, 1, 3);
        CHECKS.due("low first, then one less once", desk.tick(1), 2);
        CHECKS.row("no more than one", new int[] {desk.all(1), desk.cluster(0, 4), desk.cluster(0, 5)}, 5, 1, 4);
        Checks.drop(desk, "bob", 0);
        desk.tick(1);
        CHECKS.row("then down to 0", new int[] {desk.all(1), desk.cluster(0, 4)}, 4, 0);
        desk.tick(1);
        CHECKS.row("0 at least", new int[] {desk.all(1), desk.cluster(0, 4), desk.all(2)}, 3, 0, 12);
    }

    private static void lowAboveHigh() {
        SpeedDesk desk = Checks.chip("cluster a 1 0 0;point a 1 1;point a 2 1;point a 3 1;cluster b 1 0 0;point b 1 1;task t 99 20");
        Checks.ask(desk, "bob", 0, 2, 2);
        Checks.ask(desk, "eve", 0, 0, 1);
        Checks.ask(desk, "ann", 0, 1, 2);
        CHECKS.row("low, high", new int[] {desk.cluster(0, 7), desk.cluster(0, 8), desk.cluster(1, 7), desk.cluster(1, 8)}, 2, 1, 0, 0);
        desk.tick(1);
        CHECKS.due("high wins", desk.cluster(0, 4), 1);
        Checks.drop(desk, "eve", 0);
        Checks.drop(desk, "bob", 0);
        CHECKS.row("low, high then", new int[] {desk.cluster(0, 7), desk.cluster(0, 8)}, 1, 2);
    }

    private static void lateness() {
        SpeedDesk desk = Checks.chip("cluster a 1 0 0;point a 2 1;task t 5 2;task u 1 3");
        desk.tick(2);
        CHECKS.row("t ahead of its period's end", task(desk, 0), 1, 240, 0);
        desk.tick(1);
        CHECKS.row("t late, and u is more urgent", new int[] {desk.task(0, 3), desk.task(0, 5), desk.task(1, 3), desk.task(1, 5)}, 4, 1, 0, 0);
        desk.stop(0);
        desk.start(0);
        desk.tick(2);
        CHECKS.row("stopped: its rest is gone, it is not late again", new int[] {desk.task(0, 3), desk.task(0, 5), desk.all(3)}, 3, 1, 1);
        CHECKS.row("stopped", new int[] {desk.stop(0), desk.task(0, 3), desk.task(0, 6), desk.task(0, 7), desk.all(5)}, 3, 0, 1, 0, 1);
        int load = desk.task(0, 4);
        desk.tick(1);
        CHECKS.row("a load that fades", new int[] {desk.task(0, 4), desk.task(0, 5)}, load * 7 / 8, 1);
    }

    private static SpeedDesk busy() {
        SpeedDesk desk = Checks.chip("cluster a 1 1 2;point a 1 1;point a 3 2;cluster b 2 2 3;point b 2 1;point b 4 3;task t 9 4;task u 7 3;limit 9;cool 3");
        desk.move(1, 1);
        Checks.ask(desk, "bob", 1, 1, 1);
        desk.tick(3);
        return desk;
    }

    private static void lookingAhead() {
        for (int n : new int[] {0, 1, 7, 60, 200}) {
            SpeedDesk desk = busy();
            int[] then = {desk.ahead(n, 0), desk.ahead(n, 1), desk.ahead(n, 2), desk.ahead(n, 3), desk.ahead(n, 4), desk.ahead(n, 5)};
            CHECKS.row("nothing changed", new int[] {desk.all(0), desk.count(4), desk.all(2)}, 3, 3, busy().all(2));
            for (int left = n; left > 0; left -= 50) {
                desk.tick(Math.min(left, 50));
            }
            CHECKS.row("ahead " + n, then, desk.all(2), desk.all(3), desk.all(1), desk.cluster(0, 4), desk.cluster(1, 4), -1);
        }
        SpeedDesk desk = busy();
        CHECKS.row("out of bounds", new int[] {desk.ahead(-1, 0), desk.ahead(201, 0), desk.ahead(1, -1), desk.ahead(1, 6), desk.ahead(1, 5),
            desk.ahead(Integer.MAX_VALUE, 0), new SpeedDesk().ahead(0, 0)}, -1, -1, -1, -1, -1, -1, -1);
    }

    private static void bounds() {
        SpeedDesk desk = Checks.chip("cluster a 1 0 0;point a 1 1;point a 2 1;point a 4 1;point a 5 1;task t 8 4");
        Checks.ask(desk, "bob", 0, 3, 3);
        // by points 0 and 1 it would do 4 and 8 in 4 ticks
        CHECKS.row("bounds", new int[] {desk.bound(0, 4), desk.bound(0, 5), desk.bound(0, 100)}, 0, 1, 1);
        CHECKS.row("nothing changed", new int[] {desk.count(6), desk.cluster(0, 8), desk.all(0), desk.count(4)}, 1, 3, 0, 1);
        for (char name = 'a'; name < 'f'; name++) {
            Checks.ask(desk, "" + name, 0, 0, 3);
        }
        CHECKS.row("with six asks", new int[] {desk.count(6), desk.bound(0, 5), desk.count(6)}, 6, 1, 6);
        CHECKS.row("out of bounds", new int[] {desk.bound(0, 0), desk.bound(0, 101), desk.bound(-1, 1), desk.bound(1, 1), new SpeedDesk().bound(0, 1)},
            -1, -1, -1, -1, -1);
        desk = Checks.chip("cluster a 1 0 0;point a 1 1;point a 2 1;task t 9 4;cluster b 1 0 0;point b 1 1");
        CHECKS.row("none", new int[] {desk.bound(0, 5), desk.bound(0, 4), desk.bound(1, 5)}, -1, 0, -1);
        desk.tick(5);
        CHECKS.row("late already", new int[] {desk.all(3), desk.bound(0, 3), desk.bound(0, 4)}, 1, 0, -1);
    }

    private static void allFacts() {
        SpeedDesk desk = Checks.chip("cluster a 2 1 0;point a 4 2;cluster b 1 0 0;point b 5 1;task s 6 2;task t 9 3;task u 5 1;task v 9 9");
        desk.move(1, 1);
        desk.move(2, 2);
        desk.stop(3);
        desk.tick(1);
        CHECKS.row("all", new int[] {desk.all(0), desk.all(1), desk.all(2), desk.all(3), desk.all(4), desk.all(5), desk.all(6), desk.all(7),
            desk.all(8), desk.all(9)}, 1, 23, 23, 0, 0, 8, 3, 2, 2, 11);
        desk.move(2, 0);
        CHECKS.due("the core with most shares", desk.all(8), 0);
        desk.stop(2);
        CHECKS.row("of several the lowest", new int[] {desk.all(8), desk.all(9), desk.all(5)}, 0, 6, 12);
        desk.stop(0);
        CHECKS.row("another", new int[] {desk.all(8), desk.all(9)}, 1, 3);
        CHECKS.row("no such ones", new int[] {desk.all(10), desk.all(-1), new SpeedDesk().all(0)}, -1000000, -1000000, -1000000);
        desk = Checks.chip("cluster a 1 1 0;point a 4 2");
        CHECKS.row("without tasks", new int[] {desk.all(3), desk.all(6), desk.all(7), desk.all(8), desk.all(9), desk.tick(3), desk.all(4)},
            0, 0, -1, 0, 0, 2, 1);
    }
}
