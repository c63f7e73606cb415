/** Promises 12, 14 to 23, 36 to 38: acts, what is refused, the log, what is undone, images, years. */
public final class ActsTest {
    private static final String CHIP = "cluster a 2 1 5;point a 4 2;point a 8 3;cluster b 1 0 0;point b 9 1;task t 6 2;task u 2 1;task v 4 4";
    private static final Checks CHECKS = new Checks();

    public static void main(String[] args) {
        moving();
        asking();
        askingRefused();
        sixAsks();
        dropping();
        stopping();
        starting();
        settling();
        settlingRefused();
        statusRows();
        logging();
        longLog();
        undoing();
        undoingAllOfAnAct();
        imaging();
        imagingTheLog();
        years();
        yearsEdges();
        counting();
        CHECKS.close("ActsTest");
    }

    private static int[] status(SpeedDesk desk) {
        return new int[] {desk.status(0), desk.status(1), desk.status(2), desk.status(3)};
    }

    /** All that acts change and that can be asked for. */
    private static int[] facts(SpeedDesk desk) {
        int[] facts = new int[400];
        int n = 0;
        for (int what = 0; what < 10; what++) {
            facts[n++] = desk.all(what);
        }
        for (int t = 0; t < desk.count(5); t++) {
            for (int what = 2; what < 8; what++) {
                facts[n++] = desk.task(t, what);
            }
        }
        for (int c = 0; c < desk.count(0); c++) {
            for (int what = 4; what <= 10; what++) {
                facts[n++] = desk.cluster(c, what);
            }
        }
        for (int k = 0; k < desk.rule(7); k++) {
            for (int what = 1; what < 5; what++) {
                facts[n++] = desk.core(k, what);
            }
        }
        for (int k = 0; k < desk.count(6); k++) {
            for (int what = 0; what < 3; what++) {
                facts[n++] = desk.asked(k, what);
                facts[n++] = desk.name(2, k, what);
            }
        }
        facts[n++] = desk.count(3);
        for (int i = 0; i < desk.count(3); i++) {
            for (int what = 0; what < 3; what++) {
                facts[n++] = desk.log(i, what);
            }
        }
        return facts;
    }

    private static void moving() {
        SpeedDesk desk = Checks.chip(CHIP);
        CHECKS.row("moved", new int[] {desk.move(0, 2), desk.move(0, 1), desk.move(0, 0), desk.move(2, 2)}, 0, 2, 1, 0);
        CHECKS.row("where they are", new int[] {desk.task(0, 2), desk.task(1, 2), desk.task(2, 2), desk.core(0, 3), desk.core(2, 3)}, 0, 0, 2, 3, 4);
        CHECKS.row("refused", new int[] {desk.move(3, 0), desk.move(-1, 0), desk.move(0, 3), desk.move(0, -1), desk.move(0, 0), desk.move(2, 2)},
            -1, -1, -1, -1, -1, -1);
        CHECKS.row("status", status(desk), 4, 0, 2, 0);
        CHECKS.row("acts", new int[] {desk.count(3), desk.count(4)}, 4, 4);
        desk.tick(1);
        desk.move(0, 1);
        CHECKS.row("rest and load go with it", new int[] {desk.task(0, 3), desk.task(0, 4), desk.core(0, 3)}, 4, 28, 2);
    }

    private static void asking() {
        SpeedDesk desk = Checks.chip(CHIP);
        CHECKS.due("the first", Checks.ask(desk, " bob ", 0, 0, 1), 0);
        CHECKS.due("the tape is empty", desk.count(2), 0);
        CHECKS.due("another", Checks.ask(desk, "eve", 0, 1, 1), 1);
        CHECKS.due("the first one for another cluster", Checks.ask(desk, "bob", 1, 0, 0), 2);
        CHECKS.due("asked again it stays in its place", Checks.ask(desk, "bob", 0, 0, 0), 0);
        CHECKS.row("the first", new int[] {desk.asked(0, 0), desk.asked(0, 1), desk.asked(0, 2)}, 0, 0, 0);
        CHECKS.row("the second", new int[] {desk.asked(1, 0), desk.asked(1, 1), desk.asked(1, 2)}, 0, 1, 1);
        CHECKS.row("the third", new int[] {desk.asked(2, 0), desk.asked(2, 1), desk.asked(2, 2), desk.name(2, 2, 0)}, 1, 0, 0, 'b');
        CHECKS.row("no such ones", new int[] {desk.asked(3, 0), desk.asked(-1, 0), desk.asked(0, 3), desk.asked(0, -1)}, -1, -1, -1, -1);
        CHECKS.row("merged", new int[] {desk.cluster(0, 7), desk.cluster(0, 8), desk.count(6)}, 1, 0, 3);
        CHECKS.row("counts", new int[] {desk.count(3), desk.count(4)}, 4, 4);
    }

    private static void askingRefused() {
        SpeedDesk desk = Checks.chip(CHIP);
        CHECKS.row("no such cluster", new int[] {Checks.ask(desk, "bob", 2, 0, 0), desk.count(2), Checks.ask(desk, "b b", -1, 9, 0), desk.count(2)},
            -1, 3, -1, 3);
        CHECKS.row("status 0", status(desk), 2, 0, 0, 0);
        CHECKS.row("a fault", new int[] {Checks.ask(desk, "", 0, 0, 0), Checks.ask(desk, "bob1", 0, 0, 0), desk.count(2)}, -1, -1, 4);
        CHECKS.row("no points", new int[] {Checks.ask(desk, "bob", 0, -1, 0), Checks.ask(desk, "bob", 0, 0, 2), Checks.ask(desk, "bob", 1, 1, 1),
            Checks.ask(desk, "bob", 0, 2, 2), Checks.ask(desk, "bob", 0, 0, -1)}, -1, -1, -1, -1, -1);
        CHECKS.row("low above high", new int[] {Checks.ask(desk, "bob", 0, 1, 0), desk.count(2)}, -1, 3);
        CHECKS.row("status 1", status(desk), 2, 8, 0, 0);
        CHECKS.due("asked", Checks.ask(desk, "bob", 0, 0, 1), 0);
        CHECKS.row("it is so", new int[] {Checks.ask(desk, "  bob", 0, 0, 1), desk.count(2)}, -1, 5);
        CHECKS.row("status 2", status(desk), 2, 8, 1, 0);
        CHECKS.row("nothing was done", new int[] {desk.count(3), desk.count(4), desk.count(6)}, 1, 1, 1);
    }

    private static void sixAsks() {
        SpeedDesk desk = Checks.chip(CHIP);
        for (int i = 0; i < 6; i++) {
            CHECKS.due("ask " + i, Checks.ask(desk, "" + (char) ('a' + i), 0, 0, 1), i);
        }
        CHECKS.row("six others ask", new int[] {Checks.ask(desk, "g", 0, 0, 1), desk.count(2), Checks.ask(desk, "a", 1, 0, 0), desk.count(6)}, -1, 1, -1, 6);
        CHECKS.row("status", status(desk), 0, 0, 0, 2);
        CHECKS.row("of several the first", new int[] {Checks.ask(desk, "g", 2, 0, 1), Checks.ask(desk, "g", 0, 0, 2), Checks.ask(desk, "f", 0, 0, 1)}, -1, -1, -1);
        CHECKS.row("status then", status(desk), 1, 1, 1, 2);
        CHECKS.due("one of the six asks again", Checks.ask(desk, "f", 0, 1, 1), 5);
        CHECKS.due("one is dropped", Checks.drop(desk, "c", 0), 5);
        CHECKS.due("another comes last", Checks.ask(desk, "g", 0, 0, 1), 5);
        CHECKS.row("names in order", new int[] {desk.name(2, 0, 0), desk.name(2, 1, 0), desk.name(2, 2, 0), desk.name(2, 3, 0), desk.name(2, 4, 0), desk.name(2, 5, 0)},
            'a', 'b', 'd', 'e', 'f', 'g');
        CHECKS.row("low in order", new int[] {desk.asked(3, 1), desk.asked(4, 1), desk.asked(5, 1)}, 0, 1, 0);
        int[] six = facts(desk);
        desk.image();
        Checks.drop(desk, "g", 0);
        Checks.drop(desk, "f", 0);
        Checks.ask(desk, "x", 1, 0, 0);
        Checks.ask(desk, "y", 0, 0, 0);
        Checks.ask(desk, "y", 0, 1, 1);
        for (int i = 0; i < 5; i++) {
            desk.undo();
        }
        CHECKS.row("six asks by undo", facts(desk), six);
        Checks.drop(desk, "g", 0);
        Checks.ask(desk, "y", 1, 0, 0);
        desk.back();
        CHECKS.row("six asks by back", facts(desk), six);
    }

    private static void dropping() {
        SpeedDesk desk = Checks.chip(CHIP);
        Checks.ask(desk, "bob", 0, 1, 1);
        Checks.ask(desk, "bob", 1, 0, 0);
        CHECKS.row("no such cluster", new int[] {Checks.drop(desk, "bob", 2), Checks.drop(desk, "", -1), status(desk)[0]}, -1, -1, 2);
        CHECKS.row("a fault", new int[] {Checks.drop(desk, "", 0), Checks.drop(desk, "bob bob", 0), desk.count(2), status(desk)[1]}, -1, -1, 7, 2);
        CHECKS.row("it has not asked", new int[] {Checks.drop(desk, "eve", 0), desk.count(2), status(desk)[2]}, -1, 3, 1);
        CHECKS.row("dropped", new int[] {Checks.drop(desk, "bob", 0), desk.count(2), desk.count(6), desk.asked(0, 0), desk.cluster(0, 7)}, 1, 0, 1, 1, 0);
        CHECKS.row("not twice", new int[] {Checks.drop(desk, "bob", 0), status(desk)[2]}, -1, 2);
        CHECKS.row("the last", new int[] {Checks.drop(desk, "bob", 1), desk.count(6)}, 0, 0);
    }

    private static void stopping() {
        SpeedDesk desk = Checks.chip(CHIP);
        desk.tick(1);
        CHECKS.row("stopped", new int[] {desk.stop(0), desk.task(0, 3), desk.task(0, 6), desk.task(0, 7), desk.task(0, 4)}, 4, 0, 1, 0, 28);
        CHECKS.row("refused", new int[] {desk.stop(0), desk.stop(3), desk.stop(-1)}, -1, -1, -1);
        CHECKS.row("status", status(desk), 2, 0, 1, 0);
        CHECKS.row("without rest", new int[] {desk.stop(1), desk.all(5), desk.count(4)}, 0, 3, 3);
    }

    private static void starting() {
        SpeedDesk desk = Checks.chip(CHIP);
        CHECKS.row("refused", new int[] {desk.start(0), desk.start(3), desk.start(-1)}, -1, -1, -1);
        CHECKS.row("status", status(desk), 2, 0, 1, 0);
        desk.stop(0);
        desk.tick(1);
        CHECKS.row("started", new int[] {desk.start(0), desk.task(0, 6), desk.task(0, 3)}, 1, 0, 0);
        CHECKS.row("not twice", new int[] {desk.start(0), status(desk)[2]}, -1, 2);
        desk.tick(1);
        CHECKS.due("no work ahead of its period", desk.task(0, 3), 0);
        desk.tick(1);
        CHECKS.due("work then", desk.task(0, 3) > 0, true);
    }

    private static void settling() {
        SpeedDesk desk = Checks.chip("cluster a 1 2 0;point a 3 1;cluster b 2 1 0;point b 5 2;task s 3 1;task t 5 1;task u 4 1");
        desk.stop(0);
        desk.tick(4);
        CHECKS.row("best", new int[] {desk.best(0, 0), desk.best(1, 0), desk.best(1, 1), desk.best(1, 2)}, 20, 0, 1, 2);
        CHECKS.row("settled", new int[] {desk.settle(), desk.task(0, 2), desk.task(1, 2), desk.task(2, 2), desk.all(4)}, 2, 0, 1, 2, 6);
        CHECKS.row("logged", new int[] {desk.log(0, 0), desk.log(0, 1), desk.log(0, 2)}, 6, 2, 4);
        CHECKS.row("all stand so", new int[] {desk.settle(), status(desk)[2], desk.count(4)}, -1, 1, 3);
        desk.move(0, 2);
        CHECKS.row("one that is stopped goes to the first, too", new int[] {desk.settle(), desk.task(0, 2)}, 1, 0);
        desk = Checks.chip("cluster a 2 2 0;point a 3 1");
        CHECKS.row("without tasks", new int[] {desk.settle(), status(desk)[2]}, -1, 1);
    }

    private static void settlingRefused() {
        SpeedDesk desk = new SpeedDesk();
        CHECKS.row("no chip", new int[] {desk.settle(), status(desk)[0]}, -1, 1);
        Checks.tape(desk, "cluster a 1 0 0;point a 3 1;task t 4 1").text(0);
        CHECKS.row("no way fits", new int[] {desk.settle(), status(desk)[3], desk.count(4)}, -1, 1, 0);
    }

    private static void statusRows() {
        SpeedDesk desk = new SpeedDesk();
        desk.years(1, 1L);
        desk.undo();
        desk.back();
        desk.image();
        desk.perform(0);
        desk.run(0, 0);
        desk.text(0);
        CHECKS.row("these are no acts that are refused", status(desk), 0, 0, 0, 0);
        Checks.tape(desk, "x");
        CHECKS.row("no chip", new int[] {desk.tick(0), desk.move(0, 0), desk.ask(0, 1, 0), desk.drop(0), desk.stop(0), desk.start(0), desk.settle()},
            -1, -1, -1, -1, -1, -1, -1);
        CHECKS.row("all as no such one", status(desk), 7, 0, 0, 0);
        CHECKS.row("no such what", new int[] {desk.status(4), desk.status(-1)}, -1, -1);
        Checks.tape(desk, CHIP).text(0);
        desk.move(0, 1);
        desk.move(0, 1);
        desk.undo();
        desk.image();
        desk.back();
        CHECKS.row("not undone", status(desk), 7, 0, 1, 0);
    }

    private static void logging() {
        SpeedDesk desk = Checks.chip(CHIP);
        desk.tick(5);
        desk.move(1, 2);
        Checks.ask(desk, "bob", 1, 0, 0);
        Checks.drop(desk, "bob", 1);
        desk.tick(2);
        desk.stop(2);
        desk.start(2);
        int[][] want = {{5, 2, 7}, {4, 2, 7}, {0, 2, 7}, {3, 1, 5}, {2, 1, 5}, {1, 1, 5}, {0, 5, 5}};
        CHECKS.due("how long", desk.count(3), 7);
        for (int i = 0; i < want.length; i++) {
            CHECKS.row("log " + i, new int[] {desk.log(i, 0), desk.log(i, 1), desk.log(i, 2)}, want[i]);
        }
        CHECKS.row("no such ones", new int[] {desk.log(7, 0), desk.log(-1, 0), desk.log(0, 3), desk.log(0, -1)}, -1000000, -1000000, -1000000, -1000000);
        desk.stop(9);
        CHECKS.due("what is refused is not logged", desk.count(3), 7);
    }

    private static void longLog() {
        SpeedDesk desk = Checks.chip("cluster a 1 0 0;point a 1 1");
        for (int i = 1; i <= 75; i++) {
            desk.tick(i % 7 + 1);
        }
        CHECKS.row("60 of 75", new int[] {desk.count(3), desk.log(0, 1), desk.log(59, 1), desk.log(60, 1)}, 60, 75 % 7 + 1, 16 % 7 + 1, -1000000);
        for (int i = 1; i <= 30; i++) {
            desk.undo();
        }
        CHECKS.row("45 are left", new int[] {desk.count(3), desk.log(0, 1), desk.log(44, 1), desk.log(45, 1)}, 45, 45 % 7 + 1, 1 % 7 + 1, -1000000);
        for (int i = 46; i <= 160; i++) {
            desk.tick(i % 5 + 1);
        }
        for (int i = 0; i < 40; i++) {
            desk.undo();
        }
        for (int i = 0; i < 60; i++) {
            CHECKS.due("of 120 the latest but " + i, desk.log(i, 1), (120 - i) % 5 + 1);
        }
        CHECKS.due("60 still", desk.count(3), 60);
    }

    private static void undoing() {
        SpeedDesk desk = Checks.chip(CHIP);
        CHECKS.due("none", desk.undo(), -1);
        for (int i = 0; i < 45; i++) {
            desk.move(0, i % 2 + 1);
        }
        CHECKS.due("40 of 45", desk.count(4), 40);
        for (int left = 39; left >= 0; left--) {
            CHECKS.due("undo", desk.undo(), left);
            CHECKS.due("where it was", desk.task(0, 2), left % 2 + 1);
        }
        CHECKS.row("none more", new int[] {desk.undo(), desk.count(4), desk.count(3)}, -1, 0, 5);
    }

    private static void undoingAllOfAnAct() {
        SpeedDesk desk = Checks.chip(CHIP + ";sleep 1;boost 3;limit 20");
        int[][] before = new int[12][];
        int acts = 0;
        for (; acts < before.length; acts++) {
            before[acts] = facts(desk);
            switch (acts) {
                case 0: desk.move(1, 1); break;
                case 1: desk.tick(3); break;
                case 2: Checks.ask(desk, "bob", 0, 1, 1); break;
                case 3: desk.tick(60); break;
                case 4: Checks.ask(desk, "eve", 0, 0, 0); break;
                case 5: desk.stop(0); break;
                case 6: desk.tick(17); break;
                case 7: desk.settle(); break;
                case 8: Checks.ask(desk, "bob", 0, 0, 0); break;
                case 9: Checks.drop(desk, "bob", 0); break;
                case 10: desk.start(0); break;
                default: desk.tick(5); break;
            }
            CHECKS.due("done", desk.count(4), acts + 1);
        }
        while (acts > 0) {
            acts--;
            CHECKS.due("undo", desk.undo(), acts);
            CHECKS.row("as it was ahead of act " + acts, facts(desk), before[acts]);
        }
    }

    private static void imaging() {
        SpeedDesk desk = new SpeedDesk();
        CHECKS.row("no chip", new int[] {desk.image(), desk.back()}, -1, -1);
        Checks.tape(desk, CHIP).text(0);
        CHECKS.due("no image", desk.back(), -1);
        desk.tick(7);
        Checks.ask(desk, "bob", 0, 1, 1);
        CHECKS.due("image", desk.image(), 7);
        int[] then = facts(desk);
        desk.tick(9);
        desk.stop(1);
        desk.settle();
        Checks.drop(desk, "bob", 0);
        Checks.tape(desk, "eve");
        CHECKS.due("back", desk.back(), 7);
        CHECKS.row("as it was", facts(desk), then);
        CHECKS.row("no act can be undone", new int[] {desk.undo(), desk.count(4), desk.count(2)}, -1, 0, 3);
        desk.tick(2);
        CHECKS.row("but the next", new int[] {desk.undo(), desk.undo()}, 0, -1);
        desk.tick(2);
        CHECKS.row("back again", new int[] {desk.back(), desk.all(0)}, 7, 7);
        desk.tick(4);
        CHECKS.row("another image instead", new int[] {desk.image(), desk.tick(1) > 0 ? 1 : 0, desk.back()}, 11, 1, 11);
        CHECKS.due("undo stays possible behind an image", desk.tick(1) > 0 && desk.image() == 12 && desk.undo() == 0, true);
        Checks.tape(desk, "cluster").text(0);
        CHECKS.due("a chip refused leaves the image", desk.back(), 12);
        Checks.tape(desk, CHIP).text(0);
        CHECKS.due("no image of this chip", desk.back(), -1);
    }

    private static void imagingTheLog() {
        SpeedDesk desk = Checks.chip("cluster a 1 0 0;point a 1 1");
        for (int i = 1; i <= 70; i++) {
            desk.tick(i % 7 + 1);
        }
        desk.image();
        for (int i = 1; i <= 110; i++) {
            desk.tick(11);
        }
        desk.back();
        for (int i = 0; i < 60; i++) {
            CHECKS.due("the log " + i, desk.log(i, 1), (70 - i) % 7 + 1);
        }
        CHECKS.due("how long", desk.count(3), 60);
    }

    private static long drawn;

    private static int draw(int below) {
        drawn = drawn * 6364136223846793005L + 1442695040888963407L;
        return (int) ((drawn >>> 33) % below);
    }

    /** The same acts, one by one, on another object. */
    private static void yearsByHand(SpeedDesk desk, int n, long seed) {
        drawn = seed;
        for (int i = 0; i < n; i++) {
            int what = draw(8);
            if (what <= 3) {
                desk.tick(draw(5) + 1);
            } else if (what == 7) {
                desk.settle();
            } else if (desk.count(5) > 0) {
                int task = draw(desk.count(5));
                if (what == 6 && desk.task(task, 6) == 1) {
                    desk.start(task);
                } else if (what == 6) {
                    desk.stop(task);
                } else {
                    desk.move(task, draw(desk.rule(7)));
                }
            }
        }
    }

    private static void years() {
        String[] chips = {CHIP, "cluster a 1 0 0;point a 3 1;task t 4 1", "cluster a 2 1 1;point a 3 1;sleep 1"};
        for (String chip : chips) {
            for (long seed = -3; seed < 40; seed++) {
                long of = seed * 123456789123456789L;
                SpeedDesk one = Checks.chip(chip);
                SpeedDesk two = Checks.chip(chip);
                int n = (int) (seed + 3) % 40 + 1;
                yearsByHand(two, n, of);
                CHECKS.due("years", one.years(n, of), two.all(0));
                CHECKS.row("years " + n + ", " + of, facts(one), facts(two));
                CHECKS.due("each is an act", one.count(4), two.count(4));
                CHECKS.row("no status", status(one), 0, 0, 0, 0);
            }
        }
    }

    private static void yearsEdges() {
        SpeedDesk desk = new SpeedDesk();
        CHECKS.due("no chip", desk.years(1, 5L), -1);
        Checks.tape(desk, CHIP).text(0);
        CHECKS.row("out of bounds", new int[] {desk.years(0, 5L), desk.years(41, 5L), desk.years(-1, 5L), desk.all(0), desk.count(3)}, -1, -1, -1, 0, 0);
        CHECKS.row("no status", status(desk), 0, 0, 0, 0);
        for (int i = 0; i < 166; i++) {
            desk.tick(60);
        }
        desk.tick(38);
        desk.years(40, 77L);
        CHECKS.due("never too far", desk.all(0) == 9998 || desk.all(0) == 9999, true);
        CHECKS.row("no status then", status(desk), 0, 0, 0, 0);
    }

    private static void counting() {
        SpeedDesk desk = Checks.chip(CHIP);
        Checks.script(desk, "settle");
        desk.tick(1);
        desk.tick(1);
        desk.undo();
        Checks.ask(desk, "bob", 0, 0, 0);
        Checks.tape(desk, "abc");
        CHECKS.row("counts", new int[] {desk.count(0), desk.count(1), desk.count(2), desk.count(3), desk.count(4), desk.count(5), desk.count(6),
            desk.count(7), desk.count(-1)}, 2, 1, 3, 2, 2, 3, 1, -1000000, -1000000);
    }
}
