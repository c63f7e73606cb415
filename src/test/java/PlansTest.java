/** Promises 24 to 28 and 31: prices, best, greedy, moves, races, odds. */
public final class PlansTest {
    private static final Checks CHECKS = new Checks();

    public static void main(String[] args) {
        prices();
        pricesByAsks();
        best();
        greedy();
        greedyFails();
        moves();
        movesRound();
        races();
        racesRefused();
        odds();
        oddsOfFour();
        withoutChip();
        CHECKS.close("PlansTest");
    }

    private static int[] best(SpeedDesk desk) {
        return new int[] {desk.best(0, -9), desk.best(1, 0), desk.best(1, 1), desk.best(1, 2)};
    }

    private static int[] greedy(SpeedDesk desk) {
        return new int[] {desk.greedy(0, -9), desk.greedy(1, 0), desk.greedy(1, 1), desk.greedy(1, 2)};
    }

    private static void prices() {
        SpeedDesk desk = Checks.chip("cluster a 2 5 0;point a 3 2;point a 6 4;cluster b 1 7 0;point b 4 3;task t 5 2;task u 3 1;task v 7 2");
        CHECKS.due("10 on one core", desk.price(), -1);
        desk.move(2, 2);
        CHECKS.due("6 by 4 and idle 5; 4 by 3 and idle 7", desk.price(), 29 + 19);
        desk.move(1, 1);
        CHECKS.due("6 by 2, two cores; 4 by 3", desk.price(), 22 + 19);
        desk.move(0, 2);
        CHECKS.due("7 is too much for the other", desk.price(), -1);
        desk.stop(2);
        CHECKS.due("3 by 2 and 5; 3 by 3 and 7", desk.price(), 11 + 16);
        desk.stop(0);
        CHECKS.due("one that is stopped costs nothing", desk.price(), 11);
        desk.stop(1);
        CHECKS.due("nor do all", desk.price(), 0);
        CHECKS.row("best then", best(desk), 0, 0, 0, 0);
        desk = Checks.chip("cluster a 1 5 0;point a 3 2");
        CHECKS.row("without tasks", new int[] {desk.price(), desk.best(0, 0), desk.greedy(0, 0), desk.moves(), desk.best(1, 0), desk.greedy(1, 0)},
            0, 0, 0, 0, -1, -1);
    }

    private static void pricesByAsks() {
        SpeedDesk desk = Checks.chip("cluster a 1 0 0;point a 2 1;point a 4 3;point a 6 10;task t 3 1");
        CHECKS.due("by point 1", desk.price(), 9);
        Checks.ask(desk, "bob", 0, 2, 2);
        CHECKS.due("by low", desk.price(), 30);
        Checks.ask(desk, "eve", 0, 0, 1);
        CHECKS.due("low, then high", desk.price(), 9);
        Checks.ask(desk, "eve", 0, 0, 0);
        CHECKS.row("high is too low", new int[] {desk.price(), desk.best(0, 0), desk.greedy(0, 0), desk.moves(), desk.settle(), desk.status(3), desk.odds(30)},
            -1, -1, -1, -1, -1, 1, 300000000);
    }

    private static void best() {
        SpeedDesk desk = Checks.chip("cluster a 1 2 0;point a 3 1;point a 6 3;cluster b 2 1 0;point b 5 2;task s 3 1;task t 2 1;task u 4 1");
        CHECKS.row("3 on a: 3 and 2; 2 and 4 on two cores: 12 and 2", best(desk), 19, 0, 1, 2);
        CHECKS.row("no such ones", new int[] {desk.best(1, 3), desk.best(1, -1), desk.best(2, 0), desk.best(-1, 0)}, -1, -1, -1, -1);
        desk.stop(1);
        CHECKS.row("of several the first, stopped ones, too", best(desk), 14, 0, 0, 1);
        desk = Checks.chip("cluster a 3 0 0;point a 9 1;task s 3 1;task t 2 1;task u 4 1");
        CHECKS.row("all alike", best(desk), 9, 0, 0, 0);
        desk = Checks.chip("cluster a 3 0 0;point a 5 1;task s 3 1;task t 2 1;task u 4 1");
        CHECKS.row("the first that fits", best(desk), 9, 0, 0, 1);
        desk = Checks.chip("cluster a 3 0 0;point a 5 1;task s 6 1");
        CHECKS.row("none fits", best(desk), -1, -1, -1, -1);
    }

    private static void greedy() {
        SpeedDesk desk = Checks.chip("cluster a 1 2 0;point a 3 1;point a 6 3;cluster b 2 1 0;point b 5 2;task s 3 1;task t 2 1;task u 4 1");
        // u: a 14, b 9; s: a 5, b 7, not on u's; t: a 17 - 5, b 4 on u's no, 5 on another
        CHECKS.row("u to b, s to a, t to the other b", greedy(desk), 19, 0, 2, 1);
        CHECKS.row("no such ones", new int[] {desk.greedy(1, 3), desk.greedy(1, -1), desk.greedy(2, 0), desk.greedy(-1, 0)}, -1, -1, -1, -1);
        desk = Checks.chip("cluster a 1 0 0;point a 4 1;cluster b 1 0 0;point b 4 1;task s 2 1;task t 2 1;task u 3 1");
        CHECKS.row("of like ones the lower task, the lower core", greedy(desk), 7, 1, 1, 0);
        desk.stop(2);
        CHECKS.row("stopped ones come last", greedy(desk), 4, 0, 0, 0);
        desk = Checks.chip("cluster a 2 3 0;point a 2 1;point a 4 2;task s 2 1;task t 2 1");
        CHECKS.row("2 and 3; then 8 and 3 on one core, 4 and 6 on two", new int[] {desk.greedy(0, 0), desk.greedy(1, 0), desk.greedy(1, 1)}, 10, 0, 1);
    }

    private static void greedyFails() {
        SpeedDesk desk = Checks.chip("cluster a 1 0 0;point a 3 2;cluster b 1 0 0;point b 4 1;task s 2 1;task t 3 1;task u 2 1");
        CHECKS.row("t is put on b, then one is left", greedy(desk), -1, -1, -1, -1);
        CHECKS.row("but some way fits", best(desk), 10, 1, 0, 1);
    }

    private static void moves() {
        SpeedDesk desk = Checks.chip("cluster a 1 0 0;point a 6 1;cluster b 1 0 0;point b 9 3;cluster c 1 0 0;point c 6 9;task t 6 1;task u 5 1");
        CHECKS.row("how it is now need not fit", new int[] {desk.price(), desk.moves(), desk.best(0, 0)}, -1, 1, 21);
        desk.move(0, 1);
        CHECKS.row("round by the third", new int[] {desk.price(), desk.moves()}, 23, 3);
        desk.move(1, 1);
        CHECKS.row("from a way that does not fit", new int[] {desk.price(), desk.moves()}, -1, 1);
        desk.settle();
        CHECKS.due("settled", desk.moves(), 0);
        desk = Checks.chip("cluster a 1 0 0;point a 6 1;cluster b 1 0 0;point b 9 3;task t 6 1;task u 5 1");
        desk.move(0, 1);
        CHECKS.row("no such row", new int[] {desk.price(), desk.moves(), desk.best(0, 0)}, 23, -1, 21);
        CHECKS.due("but settle does it", desk.settle(), 2);
        desk = Checks.chip("cluster a 1 0 0;point a 4 1;task t 5 1");
        CHECKS.due("none fits", desk.moves(), -1);
    }

    private static void movesRound() {
        SpeedDesk desk = Checks.chip("cluster a 3 0 0;point a 5 1;task s 3 1;task t 3 1;task u 5 1;task v 9 3");
        CHECKS.due("four shares for three cores", desk.moves(), -1);
        desk.stop(3);
        CHECKS.due("no way of one move fits", desk.moves(), -1);
        desk.move(1, 1);
        CHECKS.due("of many ways of the best price the nearest", desk.moves(), 1);
        desk.move(2, 2);
        CHECKS.due("it is one", desk.moves(), 0);
        CHECKS.row("not the first one", new int[] {desk.best(1, 0), desk.best(1, 1), desk.best(1, 2), desk.move(0, 1), desk.move(0, 0)}, 0, 1, 2, 0, 1);
    }

    private static void races() {
        SpeedDesk desk = Checks.chip("cluster a 1 4 0;point a 2 1;point a 5 2;point a 10 3;cluster b 1 0 0;point b 3 7;point b 6 7;sleep 3");
        // 21 takes 3 ticks of 10: 63 and idle for 6; slowly in 11: by 2: 21 and idle for 11
        CHECKS.row("21 in 11", race(desk, 0, 21, 11), 63 + 24, 21 + 44, 1);
        CHECKS.row("20 in 10", race(desk, 0, 20, 10), 60 + 20, 20 + 40, 1);
        CHECKS.row("21 in 10", race(desk, 0, 21, 10), 63 + 24, 42 + 40, 1);
        CHECKS.row("10 in 2: n at most", race(desk, 0, 10, 2), 30 + 8, 20 + 8, 1);
        CHECKS.row("10 in 1", race(desk, 0, 10, 1), 34, 34, 0);
        CHECKS.row("11 in 1: not done in time", race(desk, 0, 11, 1), -1, -1, -1);
        CHECKS.row("1 in 99", race(desk, 0, 1, 99), 3 + 16, 1 + 99 * 4, 0);
        CHECKS.row("9999 in 99", race(desk, 0, 9999, 99), -1, -1, -1);
        CHECKS.row("990 in 99", race(desk, 0, 990, 99), 2970 + 396, 2970 + 396, 0);
        CHECKS.row("like ones", race(desk, 1, 9, 3), 63, 63, 0);
        Checks.ask(desk, "bob", 0, 0, 0);
        CHECKS.row("high does not matter", race(desk, 0, 21, 11), 63 + 24, 21 + 44, 1);
    }

    private static int[] race(SpeedDesk desk, int cluster, int work, int ticks) {
        return new int[] {desk.race(cluster, work, ticks, 0), desk.race(cluster, work, ticks, 1), desk.race(cluster, work, ticks, 2)};
    }

    private static void racesRefused() {
        SpeedDesk desk = Checks.chip("cluster a 1 4 0;point a 2 1");
        int[][] refused = {{1, 1, 1, 0}, {-1, 1, 1, 0}, {0, 0, 1, 0}, {0, 10000, 1, 0}, {0, 1, 0, 0}, {0, 1, 100, 0}, {0, 1, 1, 3}, {0, 1, 1, -1},
            {0, -5, 1, 0}, {0, Integer.MAX_VALUE, 99, 0}, {0, 1, Integer.MIN_VALUE, 0}};
        for (int[] r : refused) {
            CHECKS.due("race(" + r[0] + ", " + r[1] + ", " + r[2] + ", " + r[3] + ")", desk.race(r[0], r[1], r[2], r[3]), -1000000);
        }
        CHECKS.due("no chip", new SpeedDesk().race(0, 1, 1, 0), -1000000);
    }

    private static void odds() {
        SpeedDesk desk = Checks.chip("cluster a 1 0 0;point a 5 1;task s 3 1;task t 4 1");
        CHECKS.row("both do not fit", new int[] {desk.odds(0), desk.odds(1), desk.odds(33), desk.odds(50), desk.odds(99), desk.odds(100)},
            0, 19900000, 551100000, 750000000, 999900000, 1000000000);
        CHECKS.row("out of bounds", new int[] {desk.odds(-1), desk.odds(101)}, -1, -1);
        desk.stop(0);
        CHECKS.row("one is stopped", new int[] {desk.odds(0), desk.odds(33), desk.count(4)}, 1000000000, 1000000000, 1);
        Checks.tape(desk, "cluster a 1 0 0;point a 5 1;task s 6 1;task t 4 1").text(0);
        CHECKS.row("one never fits", new int[] {desk.odds(0), desk.odds(20)}, 0, 200000000);
        desk.stop(1);
        CHECKS.due("still", desk.odds(20), 200000000);
        desk.stop(0);
        CHECKS.due("all are stopped", desk.odds(0), 1000000000);
    }

    private static void oddsOfFour() {
        SpeedDesk desk = Checks.chip("cluster a 1 0 0;point a 5 1;cluster b 1 0 0;point b 3 1;task s 5 1;task t 5 1;task u 3 1;task v 3 1");
        // s or t alone on a, u or v alone on b; u or v on a, too: fits if both are off, or one of s, t with one of u, v at most, or none with two
        long fits = 0;
        for (int bits = 0; bits < 16; bits++) {
            int large = (bits & 1) + (bits >> 1 & 1);
            int small = (bits >> 2 & 1) + (bits >> 3 & 1);
            if (large + small <= 2 && large <= 1) {
                long part = 1000000000L;
                for (int t = 0; t < 4; t++) {
                    part = part / 100 * ((bits >> t & 1) == 1 ? 63 : 37);
                }
                fits += part;
            }
        }
        CHECKS.due("by 37", desk.odds(37), fits);
        CHECKS.due("nothing is stopped by it", desk.all(5), 0);
    }

    private static void withoutChip() {
        SpeedDesk desk = new SpeedDesk();
        CHECKS.row("no chip", new int[] {desk.price(), desk.best(0, 0), desk.greedy(0, 0), desk.moves(), desk.odds(0)}, -1, -1, -1, -1, -1);
    }
}
