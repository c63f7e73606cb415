/**
 * The sentences of the document's Terms 2 that tell acts, of Terms 4, and of promises 12, 14 to 23, 33, 34 and
 * 36 to 38, that name a boundary: each is quoted, and the answers below would differ if it were broken.
 */
public final class SentencesOfActsTest {
    private static final String CHIP = "cluster a 2 1 5;point a 4 2;point a 8 3;cluster b 1 0 0;point b 9 1;task t 6 2;task u 2 1;task v 4 4";
    private static final String FREE = "cluster a 3 0 0;point a 9 1;task s 1 1;task t 1 1";
    private static final Checks CHECKS = new Checks();

    public static void main(String[] args) {
        lowAndHighOfAnAsker();
        sixAsks();
        settles();
        fortyActs();
        eachActIsUndone();
        boostIsUndone();
        statusOfEach();
        statusOfSeveral();
        statusIsNotUndone();
        logOfEach();
        sixtyRecords();
        undoneRecords();
        refusedChangesNothing();
        refusedActsLeaveNoTrace();
        years();
        yearsDraws();
        yearsWithoutTasks();
        yearsThatCannotBe();
        yearsRefused();
        images();
        imagesKeepAll();
        asked();
        moving();
        asking();
        askingAtTheEdge();
        dropping();
        stopping();
        starting();
        settling();
        undoing();
        running();
        performing();
        scriptsAtTheEdge();
        counting();
        twelveAndFiveHundredCalls();
        CHECKS.close("SentencesOfActsTest");
    }

    private static int[] status(SpeedDesk desk) {
        return new int[] {desk.status(0), desk.status(1), desk.status(2), desk.status(3)};
    }

    /** What acts change. */
    private static int[] facts(SpeedDesk desk) {
        int[] facts = new int[160];
        int n = 0;
        for (int what = 0; what < 10; what++) {
            facts[n++] = desk.all(what);
        }
        for (int t = 0; t < desk.count(5); t++) {
            for (int what = 2; what < 8; what++) {
                facts[n++] = desk.task(t, what);
            }
        }
        for (int c = 0; c < desk.count(0); c++) {
            for (int what = 4; what <= 10; what++) {
                facts[n++] = desk.cluster(c, what);
            }
        }
        for (int k = 0; k < desk.rule(7); k++) {
            facts[n++] = desk.core(k, 2);
        }
        for (int k = 0; k < desk.count(6); k++) {
            for (int what = 0; what < 3; what++) {
                facts[n++] = desk.asked(k, what);
                facts[n++] = desk.name(2, k, what);
            }
        }
        facts[n++] = desk.count(3);
        for (int i = 0; i < 4; i++) {
            for (int what = 0; what < 3; what++) {
                facts[n++] = desk.log(i, what);
            }
        }
        return facts;
    }

    private static int[] log(SpeedDesk desk, int i) {
        return new int[] {desk.log(i, 0), desk.log(i, 1), desk.log(i, 2)};
    }

    private static int[] places(SpeedDesk desk) {
        return new int[] {desk.task(0, 2), desk.task(1, 2)};
    }

    // ---- Terms 2

    private static void lowAndHighOfAnAsker() {
        CHECKS.says("an ASKER has for a CLUSTER one LOW and one HIGH (POINTS, LOW no more than HIGH).");
        SpeedDesk desk = Checks.chip(CHIP);
        CHECKS.row("low and high", new int[] {Checks.ask(desk, "bob", 0, 0, 1), Checks.ask(desk, "bob", 0, 1, 1), Checks.ask(desk, "bob", 0, 0, 0),
            Checks.ask(desk, "bob", 0, 1, 0), desk.count(6), desk.asked(0, 1), desk.asked(0, 2)}, 0, 0, 0, -1, 1, 0, 0);
        CHECKS.row("for another cluster another", new int[] {Checks.ask(desk, "bob", 1, 0, 0), desk.count(6), desk.asked(0, 0), desk.asked(1, 0)}, 1, 2, 0, 1);
        CHECKS.row("points", new int[] {Checks.ask(desk, "eve", 1, 0, 1), Checks.ask(desk, "eve", 0, 0, 2), Checks.ask(desk, "eve", 0, -1, 0), desk.count(6)}, -1, -1, -1, 2);
    }

    /** Asks of a, b, c, d, e, f for cluster 0; LOW is 1 for b and e. */
    private static SpeedDesk sixAsking() {
        SpeedDesk desk = Checks.chip(CHIP);
        for (int i = 0; i < 6; i++) {
            CHECKS.due("ask " + i, Checks.ask(desk, "" + (char) ('a' + i), 0, i % 3 == 1 ? 1 : 0, 1), i);
        }
        return desk;
    }

    private static String askers(SpeedDesk desk) {
        String names = "";
        for (int k = 0; k < desk.count(6); k++) {
            names += "" + (char) desk.name(2, k, 0) + desk.asked(k, 0) + desk.asked(k, 1) + desk.asked(k, 2) + " ";
        }
        return names;
    }

    private static void askersAre(String what, SpeedDesk desk, String want) {
        String got = askers(desk);
        CHECKS.due(what + ": " + got, got.equals(want), true);
    }

    private static void sixAsks() {
        CHECKS.says("6 ASKS at most, in the order in which they were first told; asked again it stays in its place; dropped it is gone.");
        SpeedDesk desk = sixAsking();
        askersAre("six", desk, "a001 b011 c001 d001 e011 f001 ");
        CHECKS.row("a seventh", new int[] {Checks.ask(desk, "g", 0, 0, 1), Checks.ask(desk, "a", 1, 0, 0), desk.count(6), desk.status(3)}, -1, -1, 6, 2);
        CHECKS.row("again", new int[] {Checks.ask(desk, "c", 0, 1, 1), Checks.ask(desk, "f", 0, 0, 0), Checks.ask(desk, "a", 0, 0, 0)}, 2, 5, 0);
        askersAre("in their places", desk, "a000 b011 c011 d001 e011 f000 ");
        CHECKS.row("dropped", new int[] {Checks.drop(desk, "b", 0), Checks.drop(desk, "f", 0)}, 5, 4);
        askersAre("gone", desk, "a000 c011 d001 e011 ");
        CHECKS.row("asked anew", new int[] {Checks.ask(desk, "b", 0, 0, 1), Checks.ask(desk, "b", 1, 0, 0), Checks.ask(desk, "f", 0, 0, 1)}, 4, 5, -1);
        askersAre("last", desk, "a000 c011 d001 e011 b001 b100 ");
        CHECKS.row("the first dropped", new int[] {Checks.drop(desk, "a", 0), Checks.drop(desk, "b", 0), Checks.drop(desk, "c", 0), Checks.drop(desk, "e", 0),
            Checks.drop(desk, "d", 0)}, 5, 4, 3, 2, 1);
        askersAre("one is left", desk, "b100 ");
        CHECKS.row("none is", new int[] {Checks.drop(desk, "b", 1), desk.count(6), desk.asked(0, 0), desk.cluster(0, 7), desk.cluster(0, 8)}, 0, 0, -1, 0, 1);
        desk = Checks.chip(CHIP);
        Checks.ask(desk, "a", 0, 0, 1);
        Checks.ask(desk, "b", 0, 0, 0);
        Checks.ask(desk, "c", 1, 0, 0);
        Checks.ask(desk, "d", 0, 1, 1);
        Checks.ask(desk, "e", 0, 0, 0);
        Checks.ask(desk, "f", 0, 1, 1);
        Checks.drop(desk, "a", 0);
        askersAre("each with its own", desk, "b000 c100 d011 e000 f011 ");
        Checks.drop(desk, "d", 0);
        askersAre("each with its own", desk, "b000 c100 e000 f011 ");
        Checks.drop(desk, "f", 0);
        askersAre("the last dropped", desk, "b000 c100 e000 ");
    }

    private static void settles() {
        CHECKS.says("To SETTLE: all TASKS stand where BEST tells (see there; those that sleep, sleep).");
        SpeedDesk desk = Checks.chip("cluster a 1 9 0;point a 9 9;cluster b 2 1 7;point b 4 1;task s 4 1;task t 4 1;sleep 1");
        desk.move(0, 1);
        desk.move(1, 1);
        desk.tick(1);
        CHECKS.row("two sleep", new int[] {desk.all(4), desk.best(1, 0), desk.best(1, 1)}, 5, 1, 2);
        CHECKS.row("where best tells", new int[] {desk.settle(), desk.task(0, 2), desk.task(1, 2)}, 1, 1, 2);
        CHECKS.row("they sleep still", new int[] {desk.all(4), desk.core(2, 1), desk.core(2, 3)}, 5, 1, 2);
        CHECKS.row("until the next tick: 7, twice 4 and 1", new int[] {desk.tick(1), desk.all(4)}, 17, 1);
    }

    private static void fortyActs() {
        CHECKS.says("the latest 40 can be UNDONE one by one (the LOG, too).");
        for (int acts = 38; acts <= 43; acts++) {
            SpeedDesk desk = Checks.chip(FREE);
            for (int i = 1; i <= acts; i++) {
                desk.tick(i % 3 + 1);
            }
            int kept = Math.min(acts, 40);
            CHECKS.due("of " + acts, desk.count(4), kept);
            for (int left = kept - 1; left >= 0; left--) {
                CHECKS.due("undo", desk.undo(), left);
            }
            int stay = acts - kept;
            int time = 0;
            for (int i = 1; i <= stay; i++) {
                time += i % 3 + 1;
            }
            CHECKS.row("no more of " + acts, new int[] {desk.undo(), desk.count(4), desk.count(3), desk.all(0)}, -1, 0, stay, time);
            desk.tick(9);
            CHECKS.row("one more", new int[] {desk.count(4), desk.undo(), desk.undo(), desk.all(0)}, 1, 0, -1, time);
        }
    }

    private static final int ACTS = 10;

    private static int act(SpeedDesk desk, int sort) {
        switch (sort) {
            case 0: return desk.tick(1);
            case 1: return desk.move(1, 2);
            case 2: return Checks.ask(desk, "eve", 0, 1, 1);
            case 3: return Checks.drop(desk, "bob", 1);
            case 4: return desk.stop(0);
            case 5: return desk.start(2);
            case 6: return desk.settle();
            case 7: return Checks.ask(desk, "bob", 0, 0, 0);
            case 8: return desk.tick(60);
            default: return desk.years(1, 3L);
        }
    }

    /** A desk that every one of these acts changes. */
    private static SpeedDesk busy() {
        SpeedDesk desk = Checks.chip(CHIP + ";sleep 1;boost 3;limit 20");
        desk.move(2, 1);
        Checks.ask(desk, "bob", 0, 0, 1);
        Checks.ask(desk, "bob", 1, 0, 0);
        desk.tick(5);
        desk.stop(2);
        desk.tick(2);
        return desk;
    }

    private static void eachActIsUndone() {
        CHECKS.says("All these are ACTS: the latest 40 can be UNDONE one by one (the LOG, too).");
        int[] before = facts(busy());
        for (int sort = 0; sort < ACTS; sort++) {
            SpeedDesk desk = busy();
            int acts = desk.count(4);
            CHECKS.due("act " + sort, act(desk, sort) >= 0, true);
            CHECKS.row("is one", new int[] {desk.count(4), desk.count(3)}, acts + 1, acts + 1);
            CHECKS.due("undo", desk.undo(), acts);
            CHECKS.row("as it was ahead of act " + sort, facts(desk), before);
        }
        SpeedDesk desk = busy();
        for (int sort = 0; sort < ACTS; sort++) {
            SpeedDesk changed = busy();
            act(changed, sort);
            int[] then = facts(changed);
            boolean differs = false;
            for (int i = 0; i < then.length; i++) {
                differs |= then[i] != before[i];
            }
            CHECKS.due("act " + sort + " changes something", differs, true);
        }
        CHECKS.due("acts of the desk", desk.count(4), 6);
    }

    private static final String BOOSTED = "cluster a 1 0 0;point a 1 1;point a 9 1;task t 1 20;sleep 1;boost 5";

    private static void boostIsUndone() {
        CHECKS.says("A CLUSTER has a POINT (0 first), HELD (0), BOOST (0).");
        SpeedDesk desk = Checks.chip(BOOSTED);
        Checks.script(desk, "tick 9");
        desk.tick(22);
        int[] then = {desk.cluster(0, 4), desk.cluster(0, 5), desk.cluster(0, 6), desk.core(0, 2)};
        CHECKS.row("boosted", then, 1, 1, 3, 1);
        desk.image();
        CHECKS.row("told apart", new int[] {desk.ahead(3, 3), desk.ahead(4, 3), desk.run(0, 0), desk.bound(0, 9)}, 1, 0, -1, 0);
        CHECKS.row("still", new int[] {desk.cluster(0, 4), desk.cluster(0, 5), desk.cluster(0, 6), desk.core(0, 2)}, then);
        desk.tick(2);
        CHECKS.row("two less", new int[] {desk.cluster(0, 6), desk.undo(), desk.cluster(0, 4), desk.cluster(0, 5), desk.cluster(0, 6)}, 1, 1, 1, 1, 3);
        desk.tick(9);
        CHECKS.row("none", new int[] {desk.cluster(0, 6), desk.back(), desk.cluster(0, 4), desk.cluster(0, 5), desk.cluster(0, 6), desk.core(0, 2)}, 0, 22, 1, 1, 3, 1);
        desk.tick(1);
        CHECKS.due("one less", desk.cluster(0, 6), 2);
    }

    private static void statusOfEach() {
        CHECKS.says("STATUS: how many ACTS were refused as there was no such one, no CHIP (0), out of bounds (1), it is so, there is nothing to be done (2), "
                + "too much: 6 ASKS, TIME, no way fits (3)");
        SpeedDesk desk = Checks.tape(new SpeedDesk(), "bob");
        CHECKS.row("no chip", new int[] {desk.tick(1), desk.move(0, 0), desk.ask(0, 0, 0), desk.drop(0), desk.stop(0), desk.start(0), desk.settle()},
            -1, -1, -1, -1, -1, -1, -1);
        CHECKS.row("status", status(desk), 7, 0, 0, 0);
        desk = Checks.chip(CHIP);
        CHECKS.row("no such ones", new int[] {desk.move(3, 0), desk.move(0, 3), desk.move(-1, 0), desk.move(0, -1), Checks.ask(desk, "bob", 2, 0, 0),
            Checks.drop(desk, "bob", 2), desk.stop(3), desk.start(3), desk.stop(-1), desk.start(-1)}, -1, -1, -1, -1, -1, -1, -1, -1, -1, -1);
        CHECKS.row("status", status(desk), 10, 0, 0, 0);
        CHECKS.row("out of bounds", new int[] {desk.tick(0), desk.tick(61), Checks.ask(desk, "", 0, 0, 0), Checks.ask(desk, "bob", 0, 0, 2), Checks.ask(desk, "bob", 0, 1, 0),
            Checks.drop(desk, "", 0)}, -1, -1, -1, -1, -1, -1);
        CHECKS.row("status", status(desk), 10, 6, 0, 0);
        CHECKS.row("it is so", new int[] {desk.move(0, 0), Checks.drop(desk, "bob", 0), desk.start(0), desk.stop(0), desk.stop(0), Checks.ask(desk, "bob", 0, 0, 1),
            Checks.ask(desk, "bob", 0, 0, 1)}, -1, -1, -1, 0, -1, 0, -1);
        CHECKS.row("status", status(desk), 10, 6, 5, 0);
        desk = Checks.chip(FREE);
        CHECKS.row("nothing to be done", new int[] {desk.settle(), desk.status(2)}, -1, 1);
        for (char name = 'a'; name < 'g'; name++) {
            Checks.ask(desk, "" + name, 0, 0, 0);
        }
        CHECKS.row("6 asks", new int[] {Checks.ask(desk, "g", 0, 0, 0), desk.status(3)}, -1, 1);
        for (int i = 0; i < 166; i++) {
            desk.tick(60);
        }
        CHECKS.row("time", new int[] {desk.tick(40), desk.status(3), desk.tick(39), desk.tick(1), desk.status(3)}, -1, 2, 78, -1, 3);
        Checks.tape(desk, "cluster a 1 0 0;point a 9 1;task t 10 1").text(0);
        CHECKS.row("no way fits", new int[] {desk.settle(), desk.status(3)}, -1, 4);
        CHECKS.row("status", status(desk), 0, 0, 1, 4);
    }

    private static void statusOfSeveral() {
        CHECKS.says("of several the first;");
        SpeedDesk desk = new SpeedDesk();
        CHECKS.row("no chip ahead of bounds", new int[] {desk.tick(0), desk.tick(61), desk.ask(0, 1, 0), desk.drop(0)}, -1, -1, -1, -1);
        CHECKS.row("status", status(desk), 4, 0, 0, 0);
        desk = sixAsking();
        CHECKS.row("no cluster ahead of a fault, of points", new int[] {Checks.ask(desk, "", 2, 0, 0), Checks.ask(desk, "g", 2, 1, 0), Checks.drop(desk, "", 2)}, -1, -1, -1);
        CHECKS.row("status", status(desk), 3, 0, 0, 0);
        CHECKS.row("a fault, points ahead of six others", new int[] {Checks.ask(desk, "g g", 0, 0, 0), Checks.ask(desk, "g", 0, 0, 2), Checks.ask(desk, "g", 0, 1, 0)}, -1, -1, -1);
        CHECKS.row("status", status(desk), 3, 3, 0, 0);
        CHECKS.row("it is so ahead of six", new int[] {Checks.ask(desk, "a", 0, 0, 1), desk.status(2), desk.status(3)}, -1, 1, 0);
        for (int i = 0; i < 166; i++) {
            desk.tick(60);
        }
        CHECKS.row("bounds ahead of time", new int[] {desk.tick(61), desk.tick(100), desk.tick(0), desk.status(1), desk.status(3)}, -1, -1, -1, 6, 0);
        CHECKS.row("no such task ahead of a core", new int[] {desk.move(9, 9), desk.status(0)}, -1, 4);
    }

    private static void statusIsNotUndone() {
        CHECKS.says("not UNDONE.");
        SpeedDesk desk = Checks.chip(FREE);
        desk.image();
        desk.tick(1);
        desk.tick(0);
        desk.move(9, 0);
        desk.move(0, 0);
        desk.undo();
        CHECKS.row("behind undo", status(desk), 1, 1, 1, 0);
        desk.back();
        CHECKS.row("behind back", status(desk), 1, 1, 1, 0);
        Checks.tape(desk, CHIP).text(0);
        CHECKS.row("behind another chip", status(desk), 1, 1, 1, 0);
        CHECKS.says("STATUS. NONE: no such what.");
        CHECKS.row("no such what", new int[] {desk.status(4), desk.status(-1), desk.status(Integer.MAX_VALUE), desk.status(Integer.MIN_VALUE)}, -1, -1, -1, -1);
    }

    private static void logOfEach() {
        CHECKS.says("The LOG: of each ACT its sort (0 tick, 1 move, 2 ask, 3 drop, 4 stop, 5 start, 6 settle), a number (TICKS, the TASK, the CLUSTER; "
                + "of settle how many TASKS moved), TIME then");
        SpeedDesk desk = Checks.chip(FREE + ";cluster b 1 0 0;point b 1 1;task u 1 1");
        CHECKS.row("none", log(desk, 0), -1000000, -1000000, -1000000);
        desk.tick(60);
        desk.move(1, 2);
        desk.move(2, 1);
        Checks.ask(desk, "bob", 1, 0, 0);
        desk.tick(1);
        Checks.drop(desk, "bob", 1);
        desk.stop(2);
        desk.start(2);
        desk.settle();
        int[][] want = {{6, 2, 61}, {5, 2, 61}, {4, 2, 61}, {3, 1, 61}, {0, 1, 61}, {2, 1, 60}, {1, 2, 60}, {1, 1, 60}, {0, 60, 60}};
        for (int i = 0; i < want.length; i++) {
            CHECKS.row("record " + i, log(desk, i), want[i]);
        }
        CHECKS.says("the latest (i 0), the one ahead of it (1) ..: 0 sort, 1 number, 2 TIME. HIDDEN: no such ones.");
        CHECKS.row("no such record", new int[] {desk.log(9, 0), desk.log(-1, 0), desk.log(Integer.MAX_VALUE, 0), desk.log(Integer.MIN_VALUE, 0)},
            -1000000, -1000000, -1000000, -1000000);
        CHECKS.row("no such what", new int[] {desk.log(0, 3), desk.log(0, -1), desk.log(8, 3), desk.log(8, 0)}, -1000000, -1000000, -1000000, 0);
    }

    private static void sixtyRecords() {
        CHECKS.says("TIME then: the latest 60.");
        for (int acts = 59; acts <= 62; acts++) {
            SpeedDesk desk = Checks.chip(FREE);
            for (int i = 1; i <= acts; i++) {
                desk.tick(i % 5 + 1);
            }
            int kept = Math.min(acts, 60);
            CHECKS.due("how long", desk.count(3), kept);
            for (int i = 0; i < kept; i++) {
                CHECKS.due("record " + i + " of " + acts, desk.log(i, 1), (acts - i) % 5 + 1);
            }
            CHECKS.row("no more", log(desk, kept), -1000000, -1000000, -1000000);
        }
        SpeedDesk desk = Checks.chip(FREE);
        for (int i = 1; i <= 310; i++) {
            desk.tick(i % 7 + 1);
        }
        for (int i = 0; i < 60; i++) {
            CHECKS.row("record " + i + " of 310", log(desk, i), 0, (310 - i) % 7 + 1, desk.all(0) - ticksOf(310 - i + 1, 310));
        }
    }

    private static int ticksOf(int from, int to) {
        int ticks = 0;
        for (int i = from; i <= to; i++) {
            ticks += i % 7 + 1;
        }
        return ticks;
    }

    private static void undoneRecords() {
        CHECKS.says("UNDONE one by one (the LOG, too)");
        for (int acts : new int[] {60, 61, 100, 140}) {
            SpeedDesk desk = Checks.chip(FREE);
            for (int i = 1; i <= acts; i++) {
                desk.tick(i % 5 + 1);
            }
            for (int i = 0; i < 40; i++) {
                desk.undo();
            }
            int kept = Math.min(acts - 40, 60);
            CHECKS.due("how long", desk.count(3), kept);
            for (int i = 0; i < kept; i++) {
                CHECKS.due("record " + i + " of " + (acts - 40), desk.log(i, 1), (acts - 40 - i) % 5 + 1);
            }
            desk.move(1, 1);
            CHECKS.row("the next", new int[] {desk.log(0, 0), desk.log(1, 1), desk.count(3), desk.count(4)}, 1, (acts - 40) % 5 + 1, Math.min(kept + 1, 60), 1);
        }
    }

    /** One of many calls that are refused or only tell. */
    private static void refusedCall(SpeedDesk desk, int i) {
        switch (i) {
            case 0: desk.tick(0); break;
            case 1: desk.tick(61); break;
            case 2: desk.move(0, 0); break;
            case 3: desk.move(3, 0); break;
            case 4: desk.move(0, 3); break;
            case 5: desk.ask(0, 0, 1); break;
            case 6: desk.ask(0, 1, 0); break;
            case 7: desk.ask(3, 0, 0); break;
            case 8: desk.drop(0); break;
            case 9: desk.drop(3); break;
            case 10: desk.stop(2); break;
            case 11: desk.stop(3); break;
            case 12: desk.start(0); break;
            case 13: desk.start(3); break;
            case 14: desk.years(0, 1L); break;
            case 15: desk.years(41, 1L); break;
            case 16: desk.text(0); break;
            case 17: desk.text(1); break;
            case 18: desk.text(2); break;
            case 19: desk.end(317); break;
            case 20: desk.feed(-1, -1, -1, -1, -1); break;
            case 21: desk.perform(4); break;
            case 22: desk.run(4, 0); break;
            case 23: desk.race(0, 0, 1, 0); break;
            case 24: desk.ahead(201, 0); break;
            case 25: desk.bound(0, 101); break;
            case 26: desk.odds(101); break;
            default: desk.ahead(200, i % 6); desk.bound(0, 100); desk.moves(); desk.best(0, 0); desk.greedy(0, 0); desk.odds(i); desk.price(); desk.run(0, 0); break;
        }
    }

    private static SpeedDesk busyWithTape() {
        SpeedDesk desk = busy();
        Checks.script(desk, "tick 60;move 0 1;settle");
        desk.image();
        desk.tick(3);
        for (int i = 0; i < 15; i++) {
            desk.feed(0x20202020, 0x20202020, 0x20202020, 0x20202020, 0x20202020);
        }
        desk.feed(0x20202020, 0x20202020, 0x20202020, 0x626f6231, 0);
        return desk;
    }

    private static void refusedChangesNothing() {
        CHECKS.says("What is refused answers as told and changes nothing but STATUS.");
        SpeedDesk twin = busyWithTape();
        int[] before = facts(twin);
        int[] counts = {2, 1, 316, 7, 7, 3, 2};
        int[] refused = {6, 5, 3, 0};
        SpeedDesk all = busyWithTape();
        for (int i = 0; i <= 27; i++) {
            SpeedDesk desk = busyWithTape();
            refusedCall(desk, i);
            refusedCall(all, i);
            CHECKS.row("behind call " + i, facts(desk), before);
            for (int what = 0; what < 7; what++) {
                CHECKS.due("count(" + what + ") behind call " + i, desk.count(what), counts[what]);
            }
            CHECKS.row("undo, back", new int[] {desk.undo(), desk.all(0), desk.back()}, 6, 7, 7);
        }
        CHECKS.row("behind all of them", facts(all), before);
        CHECKS.row("but status: a fault of the asker three times", status(all), refused);
    }

    private static void refusedActsLeaveNoTrace() {
        CHECKS.says("What is refused answers as told and changes nothing but STATUS.");
        SpeedDesk desk = Checks.chip("cluster a 1 0 0;point a 4 1;task t 5 1");
        CHECKS.row("no way fits", new int[] {desk.settle(), desk.count(3), desk.count(4), desk.task(0, 2), desk.undo()}, -1, 0, 0, 0, -1);
        desk = sixAsking();
        Checks.tape(desk, "g");
        CHECKS.row("six asks: the tape stays", new int[] {desk.ask(0, 0, 1), desk.count(2), desk.count(6), desk.count(4), desk.name(2, 5, 0)}, -1, 1, 6, 6, 'f');
    }

    // ---- Terms 4

    private static void years() {
        CHECKS.says("YEARS by a seed: n (1 .. 40) times");
        int[][] want = {{85, 36, 1, 0, 1, 1}, {59, 33, 0, 0, 0, 1}, {86, 36, 0, 2, 1, 0}, {70, 37, 2, 0, 0, 1}};
        for (int seed = 0; seed < 4; seed++) {
            SpeedDesk desk = Checks.chip(FREE);
            CHECKS.due("40 by " + seed, desk.years(40, seed), want[seed][0]);
            CHECKS.row("then", new int[] {desk.all(0), desk.count(3), desk.task(0, 2), desk.task(1, 2), desk.task(0, 6), desk.task(1, 6)}, want[seed]);
            CHECKS.due("each is an act", desk.count(4), want[seed][1]);
        }
        SpeedDesk desk = Checks.chip("cluster a 3 0 0;cluster b 3 0 0;point a 9 1;point b 9 1;task s 1 1;task t 1 1;task u 1 1;task v 1 1");
        CHECKS.row("four tasks, six cores", new int[] {desk.years(40, 3L), desk.count(3), desk.count(4), desk.task(2, 2), desk.task(3, 2), desk.all(5)}, 70, 39, 39, 2, 3, 2);
        desk = Checks.chip(FREE);
        CHECKS.row("one", new int[] {desk.years(1, 5L), desk.count(3), desk.years(1, 5L), desk.count(3)}, 4, 1, 8, 2);
    }

    private static void yearsDraws() {
        CHECKS.says("x, at first the seed, becomes x times 6364136223846793005 and 1442695040888963407 (64 bits, going round); a draw of j: (x shifted right by 33, without sign) modulo j.");
        CHECKS.says("a draw of 8: 0 to 3: a draw of 5 and 1: so many TICKS; 4, 5: a draw of TASKS, of all CORES: MOVED; 6: a draw of TASKS: STOPPED, if it is not, else STARTED; 7: SETTLE");
        long[] seeds = {0L, 1L, -1L, Long.MAX_VALUE, Long.MIN_VALUE, 1234567890123456789L};
        int[][][] logs = {
            {{0, 3, 3}, {1, 1, 3}, {0, 1, 4}, {0, 5, 9}, {6, 1, 9}},
            {{4, 1, 0}, {0, 1, 1}, {5, 1, 1}, {0, 4, 5}, {0, 3, 8}},
            {{0, 4, 4}, {0, 1, 5}, {0, 3, 8}, {0, 3, 11}},
            {{0, 5, 5}, {1, 0, 5}, {0, 2, 7}, {6, 1, 7}, {0, 4, 11}, {0, 2, 13}},
            {{0, 4, 4}, {1, 1, 4}, {0, 5, 9}, {0, 4, 13}, {6, 1, 13}},
            {{0, 2, 2}, {0, 3, 5}, {0, 3, 8}, {4, 1, 8}}};
        for (int s = 0; s < seeds.length; s++) {
            SpeedDesk desk = Checks.chip(FREE);
            int[][] want = logs[s];
            CHECKS.due("six by " + seeds[s], desk.years(6, seeds[s]), want[want.length - 1][2]);
            CHECKS.due("acts by " + seeds[s], desk.count(3), want.length);
            for (int i = 0; i < want.length; i++) {
                CHECKS.row("act " + i + " by " + seeds[s], log(desk, want.length - 1 - i), want[i]);
            }
        }
    }

    private static void yearsWithoutTasks() {
        CHECKS.says("(without TASKS 4 to 6 draw nothing more)");
        long[] seeds = {0L, 5L, -7L, Long.MAX_VALUE};
        int[][] want = {{0, 0, 88, 24}, {4, 1, 72, 20}, {1, 1, 60, 25}, {5, 1, 58, 19}};
        for (int s = 0; s < seeds.length; s++) {
            SpeedDesk desk = Checks.chip("cluster a 2 0 0;point a 9 1");
            SpeedDesk other = Checks.chip("cluster a 2 0 0;point a 9 1");
            CHECKS.row("by " + seeds[s], new int[] {desk.years(1, seeds[s]), desk.count(3), other.years(40, seeds[s]), other.count(3)}, want[s]);
        }
    }

    private static void yearsThatCannotBe() {
        CHECKS.says("Each is an ACT; what can't be is left (no STATUS).");
        int[][][] logs = {{{1, 1, 9998}, {0, 1, 9999}, {6, 1, 9999}}, {{4, 1, 9998}, {0, 1, 9999}, {5, 1, 9999}, {1, 0, 9999}}, {{0, 1, 9999}, {4, 1, 9999}},
            {{1, 1, 9998}, {1, 1, 9998}, {4, 1, 9998}}, {{4, 1, 9998}}, {{0, 1, 9999}}};
        SpeedDesk desk = Checks.chip(FREE);
        for (int i = 0; i < 166; i++) {
            desk.tick(60);
        }
        desk.tick(38);
        desk.image();
        for (int seed = 0; seed < logs.length; seed++) {
            desk.back();
            int[][] want = logs[seed];
            CHECKS.due("eight by " + seed, desk.years(8, seed), want[want.length - 1][2]);
            CHECKS.due("acts by " + seed, desk.count(4), want.length);
            for (int i = 0; i < want.length; i++) {
                CHECKS.row("act " + i + " by " + seed, log(desk, want.length - 1 - i), want[i]);
            }
        }
        CHECKS.row("no status", status(desk), 0, 0, 0, 0);
    }

    private static void yearsRefused() {
        CHECKS.says("YEARS: TIME. NONE: no CHIP, out of bounds.");
        SpeedDesk desk = new SpeedDesk();
        CHECKS.row("no chip", new int[] {desk.years(1, 0L), desk.years(40, 0L)}, -1, -1);
        Checks.tape(desk, FREE).text(0);
        CHECKS.row("out of bounds", new int[] {desk.years(0, 0L), desk.years(41, 0L), desk.years(-1, 0L), desk.years(Integer.MAX_VALUE, 0L), desk.years(Integer.MIN_VALUE, 0L),
            desk.all(0), desk.count(3)}, -1, -1, -1, -1, -1, 0, 0);
        CHECKS.row("no status", status(desk), 0, 0, 0, 0);
    }

    private static void images() {
        CHECKS.says("An IMAGE (instead of the one ahead): TIME. NONE: no CHIP.");
        SpeedDesk desk = new SpeedDesk();
        CHECKS.row("no chip", new int[] {desk.image(), desk.back()}, -1, -1);
        Checks.tape(desk, FREE).text(0);
        CHECKS.says("BACK: TIME. NONE: no IMAGE of this CHIP.");
        CHECKS.due("no image", desk.back(), -1);
        desk.tick(7);
        CHECKS.row("of time 7", new int[] {desk.image(), desk.tick(5), desk.all(0), desk.back(), desk.all(0)}, 7, 10, 12, 7, 7);
        CHECKS.says("(no ACT can be UNDONE then)");
        CHECKS.row("none behind back", new int[] {desk.count(4), desk.undo(), desk.tick(1), desk.undo(), desk.undo(), desk.all(0)}, 0, -1, 2, 0, -1, 7);
        desk.tick(2);
        CHECKS.row("back again and again", new int[] {desk.back(), desk.back(), desk.tick(3), desk.image(), desk.tick(1), desk.back()}, 7, 7, 6, 10, 2, 10);
        desk.tick(4);
        desk.image();
        CHECKS.row("an image leaves the acts", new int[] {desk.undo(), desk.all(0), desk.back(), desk.undo()}, 0, 10, 14, -1);
        Checks.tape(desk, FREE + ";");
        CHECKS.row("a chip refused leaves the image", new int[] {desk.text(0), desk.back()}, -1, 14);
        Checks.tape(desk, FREE).text(0);
        CHECKS.row("the like chip is another one", new int[] {desk.back(), desk.all(0)}, -1, 0);
        CHECKS.row("an image at once", new int[] {desk.image(), desk.tick(9), desk.back()}, 0, 18, 0);
    }

    private static void imagesKeepAll() {
        CHECKS.says("An IMAGE keeps all that ACTS change; BACK: it is so again");
        SpeedDesk desk = busy();
        int[] before = facts(busy());
        int imaged = desk.image();
        for (int sort = 0; sort < ACTS; sort++) {
            act(desk, sort);
            CHECKS.due("back", desk.back(), imaged);
        }
        CHECKS.row("behind each act", facts(desk), before);
        for (int sort = 0; sort < ACTS; sort++) {
            act(desk, sort);
        }
        desk.years(40, 8L);
        desk.back();
        CHECKS.row("behind all", facts(desk), before);
        desk = Checks.chip(FREE);
        for (int i = 1; i <= 65; i++) {
            desk.tick(i % 5 + 1);
        }
        desk.tick(9);
        desk.undo();
        desk.image();
        for (int i = 0; i < 130; i++) {
            desk.move(1, i % 2 + 1);
        }
        desk.back();
        int time = desk.all(0);
        for (int i = 0; i < 60; i++) {
            CHECKS.row("the log, too: " + i, log(desk, i), 0, (65 - i) % 5 + 1, time);
            time -= (65 - i) % 5 + 1;
        }
        CHECKS.row("how long", new int[] {desk.count(3), desk.log(60, 0)}, 60, -1000000);
    }

    // ---- promises 12, 14 to 19, 22

    private static void asked() {
        CHECKS.says("Of the k-th ASK (0 on): 0 CLUSTER, 1 LOW, 2 HIGH. NONE: no such ones.");
        SpeedDesk desk = new SpeedDesk();
        CHECKS.row("no chip", new int[] {desk.asked(0, 0), desk.asked(-1, 0)}, -1, -1);
        desk = sixAsking();
        CHECKS.row("the last", new int[] {desk.asked(5, 0), desk.asked(5, 1), desk.asked(5, 2), desk.asked(4, 1)}, 0, 0, 1, 1);
        CHECKS.row("no such ones", new int[] {desk.asked(6, 0), desk.asked(7, 0), desk.asked(-1, 0), desk.asked(0, 3), desk.asked(0, -1),
            desk.asked(Integer.MAX_VALUE, 0), desk.asked(Integer.MIN_VALUE, 0)}, -1, -1, -1, -1, -1, -1, -1);
        Checks.drop(desk, "c", 0);
        CHECKS.row("five", new int[] {desk.asked(5, 0), desk.asked(4, 2)}, -1, 1);
    }

    private static void moving() {
        CHECKS.says("A TASK is MOVED: the CORE it was on. NONE: no such TASK, CORE (STATUS 0), it is there (2).");
        SpeedDesk desk = Checks.chip(CHIP);
        CHECKS.row("moved", new int[] {desk.move(2, 2), desk.move(2, 1), desk.move(2, 0), desk.move(0, 2)}, 0, 2, 1, 0);
        CHECKS.row("no such ones", new int[] {desk.move(3, 0), desk.move(-1, 0), desk.move(0, 3), desk.move(0, -1), desk.move(Integer.MAX_VALUE, 0),
            desk.move(0, Integer.MIN_VALUE), desk.status(0)}, -1, -1, -1, -1, -1, -1, 6);
        CHECKS.row("there it is", new int[] {desk.move(0, 2), desk.move(1, 0), desk.status(2), desk.count(4)}, -1, -1, 2, 4);
        desk.stop(0);
        CHECKS.row("one that is stopped", new int[] {desk.move(0, 1), desk.task(0, 2), desk.task(0, 6)}, 2, 1, 1);
    }

    private static void asking() {
        CHECKS.says("The TAPE (empty then) tells the ASKER: which ASK it is. NONE (the TAPE stays): no such CLUSTER (STATUS 0), a FAULT, LOW or HIGH no POINT, "
                + "LOW above HIGH (1), it is so (2), six others ask (3).");
        SpeedDesk desk = Checks.chip(CHIP);
        CHECKS.row("asked", new int[] {Checks.ask(desk, " bob ", 0, 0, 1), desk.count(2), Checks.ask(desk, "bob", 1, 0, 0), Checks.ask(desk, "bob", 0, 1, 1), desk.count(2)},
            0, 0, 1, 0, 0);
        CHECKS.row("no such cluster", new int[] {Checks.ask(desk, "bob", 2, 0, 0), desk.count(2), Checks.ask(desk, "bob", -1, 0, 0), desk.count(2), desk.status(0)}, -1, 3, -1, 3, 2);
        String[] faults = {"", " ", "bobbobby", "bob bob", "bob1", "1", "bob;", "Bob"};
        for (int i = 0; i < faults.length; i++) {
            CHECKS.row("a fault: " + faults[i], new int[] {Checks.ask(desk, faults[i], 0, 0, 0), desk.count(2), desk.status(1)}, -1, faults[i].length(), i + 1);
        }
        int[][] noPoints = {{0, 2, 2}, {0, 0, 2}, {0, -1, 0}, {0, -1, -1}, {0, 0, -1}, {1, 0, 1}, {1, 1, 1}, {0, 1, 0}, {0, Integer.MIN_VALUE, Integer.MAX_VALUE}};
        for (int i = 0; i < noPoints.length; i++) {
            int[] p = noPoints[i];
            CHECKS.row("no points " + i, new int[] {Checks.ask(desk, "eve", p[0], p[1], p[2]), desk.count(2), desk.status(1)}, -1, 3, 9 + i);
        }
        CHECKS.row("it is so", new int[] {Checks.ask(desk, "bob  ", 0, 1, 1), desk.count(2), desk.status(2), Checks.ask(desk, "bob", 0, 0, 1)}, -1, 5, 1, 0);
        CHECKS.row("nothing else", new int[] {desk.count(6), desk.count(4), desk.status(3)}, 2, 4, 0);
    }

    private static void askingAtTheEdge() {
        CHECKS.says("six others ask (3).");
        SpeedDesk desk = sixAsking();
        CHECKS.row("a seventh", new int[] {Checks.ask(desk, "g", 0, 0, 1), desk.count(2), desk.status(3), Checks.ask(desk, "a", 1, 0, 0), desk.status(3)}, -1, 1, 1, -1, 2);
        CHECKS.row("one of the six", new int[] {Checks.ask(desk, "f", 0, 0, 0), Checks.ask(desk, "a", 0, 0, 0), desk.count(6), desk.status(3)}, 5, 0, 6, 2);
        CHECKS.row("five others", new int[] {Checks.drop(desk, "d", 0), Checks.ask(desk, "g", 1, 0, 0), desk.count(6)}, 5, 5, 6);
        CHECKS.row("by a step, too", new int[] {Checks.script(desk, "ask x 0 0 0"), desk.run(0, 0), desk.perform(0), desk.count(6), desk.status(3)}, 0, 0, 0, 6, 2);
    }

    private static void dropping() {
        CHECKS.says("The TAPE (empty then) tells the ASKER: how many ASKS are left. NONE (the TAPE stays): no such CLUSTER (STATUS 0), a FAULT (1), it has not asked (2).");
        SpeedDesk desk = Checks.chip(CHIP);
        Checks.ask(desk, "bob", 0, 0, 1);
        Checks.ask(desk, "bob", 1, 0, 0);
        Checks.ask(desk, "eve", 0, 0, 0);
        CHECKS.row("no such cluster", new int[] {Checks.drop(desk, "bob", 2), desk.count(2), Checks.drop(desk, "bob", -1), desk.count(2), desk.status(0)}, -1, 3, -1, 3, 2);
        CHECKS.row("a fault", new int[] {Checks.drop(desk, "", 0), Checks.drop(desk, "bob bob", 0), desk.count(2), Checks.drop(desk, "bobbobby", 0), desk.count(2), desk.status(1)},
            -1, -1, 7, -1, 8, 3);
        CHECKS.row("it has not asked", new int[] {Checks.drop(desk, "ann", 0), desk.count(2), Checks.drop(desk, "eve", 1), desk.count(2), desk.status(2), desk.count(6)},
            -1, 3, -1, 3, 2, 3);
        CHECKS.row("dropped", new int[] {Checks.drop(desk, " bob ", 0), desk.count(2), Checks.drop(desk, "bob", 0), Checks.drop(desk, "eve", 0), Checks.drop(desk, "bob", 1), desk.count(6)},
            2, 0, -1, 1, 0, 0);
    }

    private static void stopping() {
        CHECKS.says("A TASK is STOPPED: its REST as it was. NONE: no such TASK (STATUS 0), it is (2).");
        SpeedDesk desk = Checks.chip(CHIP);
        desk.tick(1);
        CHECKS.row("stopped", new int[] {desk.stop(0), desk.stop(1), desk.stop(2), desk.task(0, 3), desk.all(5)}, 4, 0, 4, 0, 7);
        CHECKS.row("it is", new int[] {desk.stop(0), desk.stop(2), desk.status(2)}, -1, -1, 2);
        CHECKS.row("no such task", new int[] {desk.stop(3), desk.stop(-1), desk.stop(Integer.MAX_VALUE), desk.stop(Integer.MIN_VALUE), desk.status(0)}, -1, -1, -1, -1, 4);
    }

    private static void starting() {
        CHECKS.says("A TASK is STARTED: TIME. NONE: no such TASK (STATUS 0), it is not STOPPED (2).");
        SpeedDesk desk = Checks.chip(CHIP);
        CHECKS.row("it is not stopped", new int[] {desk.start(0), desk.start(2), desk.status(2)}, -1, -1, 2);
        CHECKS.row("no such task", new int[] {desk.start(3), desk.start(-1), desk.start(Integer.MAX_VALUE), desk.start(Integer.MIN_VALUE), desk.status(0)}, -1, -1, -1, -1, 4);
        desk.stop(2);
        CHECKS.row("at time 0", new int[] {desk.start(2), desk.start(2), desk.status(2)}, 0, -1, 3);
        desk.tick(5);
        desk.stop(2);
        CHECKS.row("at time 5", new int[] {desk.start(2), desk.task(2, 6), desk.task(2, 3)}, 5, 0, 0);
    }

    private static void settling() {
        CHECKS.says("SETTLE: how many TASKS moved. NONE: no CHIP (STATUS 0), all stand so (2), no way FITS (3).");
        SpeedDesk desk = new SpeedDesk();
        CHECKS.row("no chip", new int[] {desk.settle(), desk.status(0)}, -1, 1);
        desk = Checks.chip("cluster a 3 0 0;point a 9 1;task s 1 1;task t 1 1;task u 1 1;task v 1 1");
        CHECKS.row("all stand so", new int[] {desk.settle(), desk.status(2), desk.count(3)}, -1, 1, 0);
        for (int t = 0; t < 4; t++) {
            desk.move(t, 1 + t % 2);
        }
        CHECKS.row("four", new int[] {desk.settle(), desk.all(8), desk.core(0, 3), desk.settle(), desk.status(2)}, 4, 0, 15, -1, 2);
        desk.move(3, 2);
        CHECKS.row("one", new int[] {desk.settle(), desk.log(0, 1)}, 1, 1);
        Checks.tape(desk, "cluster a 3 0 0;point a 3 1;task s 3 1;task t 3 1;task u 3 1;task v 3 1").text(0);
        CHECKS.row("no way fits", new int[] {desk.settle(), desk.status(3), desk.count(3), desk.best(0, 0)}, -1, 1, 0, -1);
        desk.stop(3);
        CHECKS.row("some way fits then", new int[] {desk.settle(), desk.task(1, 2), desk.task(2, 2), desk.task(3, 2)}, 2, 1, 2, 0);
        Checks.tape(desk, "cluster a 1 0 0;point a 3 1").text(0);
        CHECKS.row("no tasks: all stand so", new int[] {desk.settle(), desk.status(2), desk.status(3)}, -1, 3, 1);
    }

    private static void undoing() {
        CHECKS.says("The latest ACT is UNDONE: how many still can be. NONE: none.");
        SpeedDesk desk = new SpeedDesk();
        CHECKS.due("no chip", desk.undo(), -1);
        Checks.tape(desk, FREE).text(0);
        CHECKS.due("no act", desk.undo(), -1);
        desk.tick(1);
        desk.move(0, 1);
        desk.tick(0);
        CHECKS.row("two", new int[] {desk.undo(), desk.task(0, 2), desk.undo(), desk.all(0), desk.undo(), desk.undo()}, 1, 0, 0, 0, -1, -1);
        desk.years(5, 1L);
        CHECKS.row("each of years", new int[] {desk.count(4), desk.undo(), desk.undo(), desk.all(0)}, 4, 3, 2, 1);
    }

    // ---- promises 33, 34, 38, and how long an object is good

    private static void running() {
        CHECKS.says("RUN: behind how many (0; NONE: all can be), ENERGY (1). HIDDEN: no such SCRIPT, no CHIP, no such what.");
        SpeedDesk desk = new SpeedDesk();
        Checks.script(desk, "tick 2;move 0 1;tick 3");
        Checks.script(desk, "move 0 0;tick 1");
        Checks.script(desk, "tick 2;move 0 2;tick 1;move 0 2;tick 5");
        CHECKS.row("no chip", new int[] {desk.run(0, 0), desk.run(0, 1), desk.run(4, 0)}, -1000000, -1000000, -1000000);
        Checks.tape(desk, FREE).text(0);
        CHECKS.row("all can be", new int[] {desk.run(0, 0), desk.run(0, 1)}, -1, 10);
        CHECKS.row("the first can't", new int[] {desk.run(1, 0), desk.run(1, 1)}, 0, 0);
        CHECKS.row("the fourth can't", new int[] {desk.run(2, 0), desk.run(2, 1)}, 3, 6);
        CHECKS.row("no such ones", new int[] {desk.run(3, 0), desk.run(-1, 0), desk.run(0, 2), desk.run(0, -1), desk.run(Integer.MAX_VALUE, 0), desk.run(0, Integer.MIN_VALUE)},
            -1000000, -1000000, -1000000, -1000000, -1000000, -1000000);
        CHECKS.row("apart", new int[] {desk.all(0), desk.all(2), desk.task(0, 2), desk.count(3), desk.count(4)}, 0, 0, 0, 0, 0);
        desk.tick(5);
        CHECKS.row("from as it is now", new int[] {desk.run(0, 1), desk.run(1, 1)}, 20, 10);
        CHECKS.row("no status", status(desk), 0, 0, 0, 0);
    }

    private static void performing() {
        CHECKS.says("DO: how many STEPS were done. NONE: no such SCRIPT, no CHIP.");
        SpeedDesk desk = new SpeedDesk();
        Checks.script(desk, "tick 2;move 0 1;tick 3;move 0 1;tick 60");
        Checks.script(desk, "move 0 1");
        CHECKS.row("no chip", new int[] {desk.perform(0), desk.perform(2)}, -1, -1);
        Checks.tape(desk, FREE).text(0);
        CHECKS.row("no such script", new int[] {desk.perform(2), desk.perform(-1), desk.perform(4), desk.perform(Integer.MAX_VALUE), desk.perform(Integer.MIN_VALUE)}, -1, -1, -1, -1, -1);
        CHECKS.says("DO: its STEPS as ACTS, up to there (no STATUS).");
        CHECKS.row("up to there", new int[] {desk.perform(0), desk.all(0), desk.count(4), desk.count(3), desk.log(1, 0)}, 3, 5, 3, 3, 1);
        CHECKS.row("none", new int[] {desk.perform(1), desk.count(4)}, 0, 3);
        CHECKS.row("no status", status(desk), 0, 0, 0, 0);
        CHECKS.row("each undone", new int[] {desk.undo(), desk.all(0), desk.undo(), desk.task(0, 2), desk.undo(), desk.all(0)}, 2, 2, 1, 0, 0, 0);
        CHECKS.row("all can be", new int[] {desk.perform(1), desk.task(0, 2)}, 1, 1);
    }

    private static void scriptsAtTheEdge() {
        CHECKS.says("RUN of a SCRIPT: behind how many STEPS the first is that can't be; ENERGY then.");
        String[] steps = {"move 2 0", "move 0 3", "move 0 0", "ask a 1 0 0", "ask a 0 0 1", "ask a 0 1 0", "drop a 0", "drop a 1", "stop 2", "start 0", "start 2", "settle",
            "move 9 9", "ask a 9 9 9", "stop 9", "start 9", "drop a 9"};
        for (String step : steps) {
            SpeedDesk desk = Checks.chip(FREE);
            Checks.script(desk, "tick 3;" + step + ";tick 1");
            CHECKS.row(step, new int[] {desk.run(0, 0), desk.run(0, 1), desk.perform(0), desk.all(0), desk.count(4)}, 1, 6, 1, 3, 1);
            CHECKS.row("no status by " + step, status(desk), 0, 0, 0, 0);
        }
        SpeedDesk desk = Checks.chip(FREE);
        Checks.script(desk, "tick 60" + Checks.repeated(";tick 60", 11));
        for (int i = 0; i < 13; i++) {
            desk.perform(0);
        }
        CHECKS.row("up to 9,999", new int[] {desk.all(0), desk.run(0, 0), desk.run(0, 1), desk.perform(0), desk.all(0), desk.run(0, 0)}, 9360, 10, 19920, 10, 9960, 0);
        Checks.script(desk, "tick 39;tick 1");
        CHECKS.row("9,999 can be", new int[] {desk.run(1, 0), desk.perform(1), desk.all(0), desk.status(3)}, 1, 1, 9999, 0);
    }

    private static void counting() {
        CHECKS.says("0 CLUSTERS, 1 SCRIPTS, 2 bytes of the TAPE, 3 how long the LOG is, 4 ACTS that can be UNDONE, 5 TASKS, 6 ASKS. HIDDEN for others.");
        SpeedDesk desk = Checks.chip(CHIP);
        Checks.script(desk, "settle");
        for (int i = 0; i < 70; i++) {
            desk.tick(1);
        }
        Checks.ask(desk, "bob", 0, 0, 0);
        Checks.ask(desk, "eve", 0, 0, 0);
        desk.undo();
        Checks.tape(desk, "abcde");
        int[] want = {2, 1, 5, 60, 39, 3, 1};
        for (int what = 0; what <= 6; what++) {
            CHECKS.due("count(" + what + ")", desk.count(what), want[what]);
        }
        CHECKS.row("others", new int[] {desk.count(7), desk.count(-1), desk.count(Integer.MAX_VALUE), desk.count(Integer.MIN_VALUE)}, -1000000, -1000000, -1000000, -1000000);
    }

    private static void twelveAndFiveHundredCalls() {
        CHECKS.says("An object is used for at most 512 calls after it has been made");
        SpeedDesk desk = Checks.feed(new SpeedDesk(), "cluster a 1 0 0;point a 1 1;task t 1 1");
        desk.text(0);
        for (int call = 4; call <= 511; call++) {
            CHECKS.due("call " + call, desk.tick(1), 1);
        }
        CHECKS.due("call 512", desk.tick(1), 1);
        desk = Checks.feed(new SpeedDesk(), "cluster a 1 0 0;point a 1 1;task t 1 1");
        desk.text(0);
        for (int call = 4; call <= 511; call++) {
            desk.tick(0);
        }
        CHECKS.due("508 were refused: call 512", desk.status(1), 508);
        desk = Checks.chip("cluster a 1 0 0;point a 1 1;task t 1 1");
        for (int i = 0; i < 12; i++) {
            desk.years(40, i);
        }
        CHECKS.row("some hundred acts", new int[] {desk.count(3), desk.count(4)}, 60, 40);
    }
}
