/** Promises 1 to 5, 11 and 32: a new object, the tape, the faults of texts, names, steps. */
public final class TextsTest {
    private static final String A = "cluster a 1 0 0;";
    private static final String PA = "point a 9 1";
    private static final Checks CHECKS = new Checks();

    public static void main(String[] args) {
        newObject();
        feeding();
        ending();
        chipFaults();
        chipBounds();
        chipLimits();
        chipNames();
        ruleLines();
        scriptFaults();
        scriptBounds();
        scriptLimits();
        askerFaults();
        takingChips();
        takingScripts();
        names();
        steps();
        CHECKS.close("TextsTest");
    }

    private static void fault(int sort, String text, int want) {
        SpeedDesk desk = Checks.tape(new SpeedDesk(), text);
        CHECKS.due("fault(" + sort + ") of '" + text + "'", desk.fault(sort), want);
        CHECKS.due("the tape behind fault(" + sort + ") of '" + text + "'", desk.count(2), text.length());
    }

    private static void newObject() {
        SpeedDesk desk = new SpeedDesk();
        for (int what = 0; what <= 6; what++) {
            CHECKS.due("new: count(" + what + ")", desk.count(what), 0);
        }
        for (int what = 0; what <= 3; what++) {
            CHECKS.due("new: status(" + what + ")", desk.status(what), 0);
        }
        CHECKS.due("new: rule(6)", desk.rule(6), -1);
        CHECKS.due("new: all(0)", desk.all(0), -1000000);
        CHECKS.due("new: undo()", desk.undo(), -1);
        CHECKS.due("new: back()", desk.back(), -1);
        CHECKS.due("NONE", SpeedDesk.NONE, -1);
        CHECKS.due("HIDDEN", SpeedDesk.HIDDEN, -1000000);
    }

    private static void feeding() {
        SpeedDesk desk = new SpeedDesk();
        CHECKS.due("feed of zeros", desk.feed(0, 0, 0, 0, 0), 0);
        CHECKS.due("feed of bytes of 0 among others", desk.feed(0x61006200, 0, 0x00000063, 0, 0x64000000), 4);
        CHECKS.due("an asker of these bytes", Checks.feed(desk, "").fault(2), -1);
        desk = Checks.tape(Checks.chip(A + PA), "");
        desk.feed(0x61006200, 0, 0x00000063, 0, 0x64000000);
        CHECKS.due("asked by abcd", desk.ask(0, 0, 0), 0);
        for (int i = 0; i < 4; i++) {
            CHECKS.due("letter " + i, desk.name(2, 0, i), 'a' + i);
        }
        desk = new SpeedDesk();
        for (int i = 1; i <= 15; i++) {
            CHECKS.due("feed " + i, desk.feed(-1, 0x01010101, -2, 0x20202020, 0x7fffffff), 20 * i);
        }
        CHECKS.due("feed of 19 bytes", desk.feed(-1, -1, -1, -1, 0x00ffffff), 319);
        CHECKS.due("two bytes too many", desk.feed(0, 0, 0x0101, 0, 0), -1);
        CHECKS.due("nothing of them came", desk.count(2), 319);
        CHECKS.due("one byte more", desk.feed(0, 0, 0, 0, 0x80000000), 320);
        CHECKS.due("no byte more", desk.feed(0, 0, 0, 0, 0), 320);
        CHECKS.due("one byte too many", desk.feed(0, 0, 0, 0, 1), -1);
        CHECKS.due("still as long", desk.count(2), 320);
    }

    private static void ending() {
        SpeedDesk desk = Checks.tape(new SpeedDesk(), "abcdef");
        CHECKS.due("end(-1)", desk.end(-1), false);
        CHECKS.due("end(7)", desk.end(7), false);
        CHECKS.due("as long", desk.count(2), 6);
        CHECKS.due("end(6)", desk.end(6), true);
        CHECKS.due("as long still", desk.count(2), 6);
        CHECKS.due("end(3)", desk.end(3), true);
        CHECKS.due("end(4) then", desk.end(4), false);
        CHECKS.due("feed behind it", Checks.feed(desk, "xyz").count(2), 6);
        CHECKS.due("end(0)", desk.end(0), true);
        CHECKS.due("empty", desk.count(2), 0);
    }

    private static void chipFaults() {
        SpeedDesk desk = new SpeedDesk();
        CHECKS.row("fault of no such sort", new int[] {desk.fault(-1), desk.fault(3), desk.fault(Integer.MIN_VALUE)}, -2, -2, -2);
        fault(0, "", 0);
        fault(0, "   ", 3);
        fault(0, A + PA, -1);
        fault(0, "  cluster  a   1 0 0  ;  point  a 9 1  ", -1);
        fault(0, "cluster a1 0 0;point a9 1", -1);
        fault(0, "cluster a001 000 0;point a 0000000000009 1", -1);
        fault(0, ";" + A + PA, 0);
        fault(0, A + ";" + PA, 16);
        fault(0, A + PA + ";", 28);
        fault(0, A + PA + "; ", 29);
        fault(0, A + PA + "  x", 29);
        fault(0, A + PA + " 1", 28);
        fault(0, "Cluster a 1 0 0", 0);
        fault(0, "cluSter a 1 0 0", 0);
        fault(0, "clusters a 1 0 0", 0);
        fault(0, "clustera 1 0 0", 0);
        fault(0, " xyz", 1);
        fault(0, " 12", 1);
        fault(0, "tick 1", 0);
        fault(0, "settle", 0);
        fault(0, "cluster", 7);
        fault(0, "cluster ", 8);
        fault(0, "cluster 1", 8);
        fault(0, "cluster A 1 0 0", 8);
        fault(0, "cluster a\t1 0 0", 9);
        fault(0, "cluster a x 0 0", 10);
        fault(0, "cluster a 1x 0", 11);
        fault(0, "cluster a 1 0 0x", 15);
        fault(0, "cluster a 1 0 0,", 15);
        fault(0, "cluster a -1 0 0", 10);
        fault(0, "cluster a 1 0 \u00e9", 14);
        fault(0, "cluster a 1 0;", 13);
        fault(0, "cluster a 1 0 ", 14);
        fault(0, A + "point b 9 1", 22);
        fault(0, "point a 9 1;" + A, 6);
        fault(0, A + "task t 1 1;point t 9 1", 33);
    }

    private static void chipBounds() {
        fault(0, "cluster a 0 0 0;" + PA, 10);
        fault(0, "cluster a 3 99 99;" + PA, -1);
        fault(0, "cluster a 4 0 0;" + PA, 10);
        fault(0, "cluster a 1 100 0;" + PA, 12);
        fault(0, "cluster a 1 0 100;" + PA, 14);
        fault(0, "cluster a 4294967297 0 0;" + PA, 10);
        fault(0, "cluster a 18446744073709551617 0 0;" + PA, 10);
        fault(0, A + "point a 1 1", -1);
        fault(0, A + "point a 0 1", 24);
        fault(0, A + "point a 99 99", -1);
        fault(0, A + "point a 100 1", 24);
        fault(0, A + "point a 1 0", 26);
        fault(0, A + "point a 1 100", 26);
        fault(0, A + "point a 5 1;point a 5 1", 36);
        fault(0, A + "point a 5 1;point a 4 1", 36);
        fault(0, A + "point a 5 9;point a 6 1", -1);
        fault(0, A + "point a 99 1;point a 99 1", 37);
        fault(0, A + PA + ";task t 1 1", -1);
        fault(0, A + PA + ";task t 999 20", -1);
        fault(0, A + PA + ";task t 0 1", 35);
        fault(0, A + PA + ";task t 1000 1", 35);
        fault(0, A + PA + ";task t 1 0", 37);
        fault(0, A + PA + ";task t 1 21", 37);
    }

    private static void chipLimits() {
        String three = "cluster a 1 0 0;cluster b 1 0 0;cluster c 1 0 0;";
        fault(0, three + "point a 1 1;point b 1 1;point c 1 1", -1);
        fault(0, three + "cluster d 1 0 0", 48);
        fault(0, three + "cluster", 48);
        fault(0, "cluster a 3 0 0;cluster b 3 0 0;cluster c 1 0 0", 42);
        fault(0, "cluster a 3 0 0;cluster b 2 0 0;cluster c 2 0 0", 42);
        fault(0, "cluster a 3 0 0;cluster b 3 0 0;point a 1 1;point b 1 1", -1);
        fault(0, "cluster a 2 0 0;cluster b 2 0 0;cluster c 2 0 0;point a 1 1;point b 1 1;point c 1 1", -1);
        String five = A + "point a 1 1;point a 2 1;point a 3 1;point a 4 1;point a 5 1";
        fault(0, five, -1);
        fault(0, five + ";point a 6 1", 82);
        fault(0, five + ";point a", 82);
        String four = A + PA + ";task s 1 1;task t 1 1;task u 1 1;task v 1 1";
        fault(0, four, -1);
        fault(0, four + "; task w 1 1", 73);
        fault(0, four + ";task", 72);
        fault(0, A, 16);
        fault(0, "cluster a 1 0 0", 15);
        fault(0, "cluster a 1 0 0;cluster b 1 0 0;point b 1 1", 43);
        fault(0, "cluster a 1 0 0;cluster b 1 0 0;point a 1 1 ", 44);
        fault(0, "task t 1 1", 10);
        fault(0, "hold 1 ", 7);
    }

    private static void chipNames() {
        fault(0, "cluster abcdefg 1 0 0;point abcdefg 1 1", -1);
        fault(0, "cluster abcdefgh 1 0 0", 8);
        fault(0, "cluster a 1 0 0;cluster a 1 0 0", 24);
        fault(0, A + "task a 1 1", 21);
        fault(0, "task a 1 1;cluster a 1 0 0", 19);
        fault(0, "task a 1 1;task a 1 1", 16);
        fault(0, "task a 1 1;task aa 1 1;" + "cluster z 1 0 0;point z 1 1", -1);
        String[] words = {"cluster", "point", "task", "margin", "hold", "sleep", "boost", "limit", "cool",
            "tick", "move", "ask", "drop", "stop", "start", "settle"};
        for (String word : words) {
            fault(0, "cluster " + word + " 1 0 0", 8);
            fault(0, "task " + word + " 1 1", 5);
        }
        fault(0, "cluster tas 1 0 0;point tas 1 1;task settles 1 1", -1);
    }

    private static void ruleLines() {
        rule("margin", 0, 100);
        rule("hold", 0, 20);
        rule("sleep", 1, 20);
        rule("boost", 0, 9);
        rule("limit", 1, 9999);
        rule("cool", 2, 16);
    }

    private static void rule(String word, int least, int most) {
        int at = word.length() + 1;
        fault(0, word + " " + least + ";" + A + PA, -1);
        fault(0, word + " " + most + ";" + A + PA, -1);
        fault(0, word + " " + (most + 1) + ";" + A + PA, at);
        if (least > 0) {
            fault(0, word + " " + (least - 1) + ";" + A + PA, at);
        }
        fault(0, A + word + " 2;" + PA + ";" + word + " 2", 16 + at + 2 + 12);
        fault(0, word + ";", at - 1);
    }

    private static void scriptFaults() {
        fault(1, "", 0);
        fault(1, "  ", 2);
        fault(1, "tick 5;move 0 1;ask bob 0 1 2;drop bob 0;stop 3;start 3;settle", -1);
        fault(1, " tick5 ; move 0 1 ;ask bob0 1 2;drop bob0;settle ", -1);
        fault(1, "tick", 4);
        fault(1, "tick ;", 5);
        fault(1, "tick a", 5);
        fault(1, "tock 1", 0);
        fault(1, "cluster a 1 0 0", 0);
        fault(1, "hold 1", 0);
        fault(1, "1", 0);
        fault(1, "tick 1 1", 7);
        fault(1, "tick 1 a", 7);
        fault(1, "tick 1;;tick 1", 7);
        fault(1, "tick 1;", 7);
        fault(1, "tick 1; ", 8);
        fault(1, "move 1", 6);
        fault(1, "move 1 1 1", 9);
        fault(1, "move 11", 5);
        fault(1, "move a 1", 5);
        fault(1, "ask 0 0 0", 4);
        fault(1, "ask bob 0 0", 11);
        fault(1, "ask bob 0 0 0 0", 14);
        fault(1, "ask bobbobby 0 0 0", 4);
        fault(1, "ask settle 0 0 0;drop tick 0", -1);
        fault(1, "drop 0", 5);
        fault(1, "drop bob", 8);
        fault(1, "drop bob 0 0", 11);
        fault(1, "settle 0", 7);
        fault(1, "settles", 0);
    }

    private static void scriptBounds() {
        fault(1, "tick 1;tick 60", -1);
        fault(1, "tick 0", 5);
        fault(1, "tick 61", 5);
        fault(1, "move 9 9;move 0 0", -1);
        fault(1, "move 10 0", 5);
        fault(1, "move 0 10", 7);
        fault(1, "ask a 9 9 0", -1);
        fault(1, "ask a 10 0 0", 6);
        fault(1, "ask a 0 10 0", 8);
        fault(1, "ask a 0 0 10", 10);
        fault(1, "drop a 9", -1);
        fault(1, "drop a 10", 7);
        fault(1, "stop 9;start 9", -1);
        fault(1, "stop 10", 5);
        fault(1, "start 10", 6);
    }

    private static void scriptLimits() {
        String twelve = "settle" + Checks.repeated(";settle", 11);
        fault(1, twelve, -1);
        fault(1, twelve + " ", -1);
        fault(1, twelve + ";settle", 83);
        fault(1, twelve + "  ; settle", 85);
        fault(1, twelve + " x", 84);
    }

    private static void askerFaults() {
        fault(2, "", 0);
        fault(2, "  ", 2);
        fault(2, "bob", -1);
        fault(2, "  bob  ", -1);
        fault(2, "settle", -1);
        fault(2, "abcdefg", -1);
        fault(2, "abcdefgh", 0);
        fault(2, " bob bob", 5);
        fault(2, "bob1", 3);
        fault(2, "bob;", 3);
        fault(2, "1", 0);
        fault(2, "boB", 2);
        fault(2, "`", 0);
        fault(2, "{", 0);
    }

    private static void takingChips() {
        SpeedDesk desk = new SpeedDesk();
        CHECKS.row("text of no such sort", new int[] {desk.text(-1), desk.text(2), desk.text(3)}, -1, -1, -1);
        CHECKS.due("text(0) of the empty tape", desk.text(0), -1);
        Checks.tape(desk, A + "point b 1 1");
        CHECKS.due("text(0) with a fault", desk.text(0), -1);
        CHECKS.due("the tape stays", desk.count(2), 27);
        CHECKS.due("no chip then", desk.count(0), 0);
        Checks.tape(desk, "cluster a 1 0 0;cluster b 2 0 0;point a 1 1;point b 3 1;task t 5 2;task u 3 3");
        CHECKS.due("text(0)", desk.text(0), 2);
        CHECKS.row("counts", new int[] {desk.count(0), desk.count(2), desk.count(5)}, 2, 0, 2);
        Checks.script(desk, "tick 1");
        Checks.ask(desk, "bob", 0, 0, 0);
        desk.move(0, 1);
        desk.tick(3);
        desk.stop(1);
        desk.tick(61);
        desk.image();
        Checks.tape(desk, "cluster");
        CHECKS.due("text(0) refused", desk.text(0), -1);
        CHECKS.row("all is there still", new int[] {desk.count(0), desk.count(3), desk.count(4), desk.count(6), desk.all(0)}, 2, 4, 4, 1, 3);
        CHECKS.due("another chip", Checks.tape(desk, A + PA + ";task s 4 4;hold 9").text(0), 1);
        CHECKS.row("what was of the old one is gone", new int[] {desk.count(0), desk.count(2), desk.count(3), desk.count(4),
            desk.count(5), desk.count(6), desk.all(0), desk.all(1), desk.all(2), desk.all(4), desk.all(5), desk.all(6), desk.back(), desk.undo(),
            desk.task(0, 2), desk.task(0, 4), desk.core(0, 2), desk.cluster(0, 5)},
            1, 0, 0, 0, 1, 0, 0, 0, 0, 0, 0, 0, -1, -1, 0, 0, 0, 0);
        CHECKS.row("scripts and status stay", new int[] {desk.count(1), desk.status(1), desk.step(0, 0, 1)}, 1, 1, 1);
        CHECKS.due("a rule of the new one", desk.rule(1), 9);
        CHECKS.due("the same chip again", Checks.tape(desk, A + PA).text(0), 1);
        CHECKS.due("a rule not told", desk.rule(1), 3);
        CHECKS.due("no tasks", desk.count(5), 0);
    }

    private static void takingScripts() {
        SpeedDesk desk = new SpeedDesk();
        Checks.tape(desk, "tick 1;");
        CHECKS.due("text(1) with a fault", desk.text(1), -1);
        CHECKS.due("the tape stays", desk.count(2), 7);
        for (int i = 0; i < 4; i++) {
            Checks.tape(desk, "tick " + (i + 1));
            CHECKS.due("text(1)", desk.text(1), i);
            CHECKS.due("the tape is empty", desk.count(2), 0);
        }
        Checks.tape(desk, "tick 5");
        CHECKS.due("fault(1) of a fifth", desk.fault(1), -1);
        CHECKS.due("text(1) of a fifth", desk.text(1), -1);
        CHECKS.due("the tape stays then", desk.count(2), 6);
        CHECKS.due("four scripts", desk.count(1), 4);
        CHECKS.row("they are as they were", new int[] {desk.step(0, 0, 1), desk.step(1, 0, 1), desk.step(2, 0, 1), desk.step(3, 0, 1),
            desk.step(4, 0, 1)}, 1, 2, 3, 4, -1000000);
    }

    private static void names() {
        SpeedDesk desk = Checks.chip("cluster abcdefg 1 0 0;cluster z 1 0 0;point z 1 1;point abcdefg 1 1;task tu 1 1");
        for (int i = 0; i < 7; i++) {
            CHECKS.due("name(0, 0, " + i + ")", desk.name(0, 0, i), 'a' + i);
        }
        CHECKS.row("names", new int[] {desk.name(0, 0, 7), desk.name(0, 0, -1), desk.name(0, 1, 0), desk.name(0, 1, 1), desk.name(0, 2, 0),
            desk.name(0, -1, 0), desk.name(1, 0, 0), desk.name(1, 0, 1), desk.name(1, 0, 2), desk.name(1, 1, 0), desk.name(2, 0, 0),
            desk.name(3, 0, 0), desk.name(-1, 0, 0), desk.name(0, 0, Integer.MAX_VALUE), desk.name(0, 0, Integer.MIN_VALUE)},
            -1, -1, 'z', -1, -1, -1, 't', 'u', -1, -1, -1, -1, -1, -1, -1);
        Checks.ask(desk, "  eve ", 1, 0, 0);
        Checks.ask(desk, "settle", 1, 0, 0);
        CHECKS.row("askers", new int[] {desk.name(2, 0, 0), desk.name(2, 0, 1), desk.name(2, 0, 2), desk.name(2, 0, 3), desk.name(2, 1, 5),
            desk.name(2, 2, 0), desk.name(2, -1, 0)}, 'e', 'v', 'e', -1, 'e', -1, -1);
    }

    private static void steps() {
        SpeedDesk desk = new SpeedDesk();
        Checks.script(desk, "tick 60;move 1 2;ask bob 3 4 5;drop eve 6;stop 7;start 8;settle");
        int[][] want = {{0, 60, -1, -1}, {1, 1, 2, -1}, {2, 3, 4, 5}, {3, 6, -1, -1}, {4, 7, -1, -1}, {5, 8, -1, -1}, {6, -1, -1, -1}};
        for (int i = 0; i < want.length; i++) {
            for (int what = 0; what < 4; what++) {
                CHECKS.due("step(0, " + i + ", " + what + ")", desk.step(0, i, what), want[i][what]);
            }
            CHECKS.due("step(0, " + i + ", 4)", desk.step(0, i, 4), -1000000);
            CHECKS.due("step(0, " + i + ", -1)", desk.step(0, i, -1), -1000000);
        }
        CHECKS.row("no such steps", new int[] {desk.step(0, 7, 0), desk.step(0, -1, 0), desk.step(1, 0, 0), desk.step(-1, 0, 0)},
            -1000000, -1000000, -1000000, -1000000);
        Checks.script(desk, "settle");
        CHECKS.row("of two scripts", new int[] {desk.step(1, 0, 0), desk.step(1, 1, 0), desk.step(0, 0, 0)}, 6, -1000000, 0);
    }
}
