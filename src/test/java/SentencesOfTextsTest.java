/**
 * The sentences of the document's Terms 1 and of promises 1 to 5, 11 and 32 that name a boundary:
 * each is quoted, and the answers below the quotation would differ if it were broken.
 */
public final class SentencesOfTextsTest {
    private static final String A = "cluster a 1 0 0;";
    private static final String PA = "point a 9 1";
    private static final String CHIP = A + PA;
    private static final String[] WORDS = {"cluster", "point", "task", "margin", "hold", "sleep", "boost", "limit", "cool",
        "tick", "move", "ask", "drop", "stop", "start", "settle"};
    private static final Checks CHECKS = new Checks();

    public static void main(String[] args) {
        lines();
        clusterLines();
        pointLines();
        taskLines();
        ruleLines();
        howManyOfAChip();
        oneAtLeast();
        howManyScripts();
        howManySteps();
        stepNumbers();
        words();
        numbers();
        namesOfAChip();
        byNameOrNumber();
        askers();
        blanks();
        firstFault();
        textsThatEndTooEarly();
        faultsOfWords();
        faultsOfTooMany();
        otherBytes();
        newObject();
        feeding();
        feedingTooMuch();
        ending();
        faultSorts();
        takingChips();
        chipsOneBehindAnother();
        takingScripts();
        refusedTexts();
        namesTold();
        stepsTold();
        CHECKS.close("SentencesOfTextsTest");
    }

    /** The fault of a text, and that a text with a fault is not taken and stays. */
    private static void fault(int sort, String text, int want) {
        String of = " of '" + text + "'";
        SpeedDesk desk = Checks.tape(new SpeedDesk(), text);
        CHECKS.due("fault(" + sort + ")" + of, desk.fault(sort), want);
        CHECKS.due("the tape behind it" + of, desk.count(2), text.length());
        if (sort < 2) {
            CHECKS.due("text(" + sort + ") is taken" + of, desk.text(sort) >= 0, want == -1);
            CHECKS.due("the tape then" + of, desk.count(2), want == -1 ? 0 : text.length());
        }
    }

    private static void chip(String text, int want) {
        fault(0, text, want);
    }

    private static void script(String text, int want) {
        fault(1, text, want);
    }

    private static void asker(String text, int want) {
        fault(2, text, want);
    }

    /** A number's least and most are taken, one less and one more are not; # is where it stands. */
    private static void bounds(int sort, String text, int least, int most) {
        int at = text.indexOf('#');
        fault(sort, text.replace("#", "" + least), -1);
        fault(sort, text.replace("#", "" + most), -1);
        fault(sort, text.replace("#", "" + (most + 1)), at);
        if (least > 0) {
            fault(sort, text.replace("#", "" + (least - 1)), at);
        } else {
            fault(sort, text.replace("#", "-1"), at);
        }
    }

    // ---- Terms 1

    private static void lines() {
        CHECKS.says("LINES with ; between");
        chip(";" + CHIP, 0);
        chip(A + ";" + PA, 16);
        chip(CHIP + ";", 28);
        chip("cluster a 1 0 0 " + PA, 16);
        chip("cluster a 1 0 0 1;" + PA, 16);
        CHECKS.says("in any order but for what must be told ahead");
        chip("cool 2;task t 1 1;" + A + "sleep 1;" + PA + ";margin 3", -1);
        chip("cluster a 1 0 0;cluster b 1 0 0;point b 5 1;point a 5 1;point b 6 1", -1);
        chip(PA + ";" + A, 6);
    }

    private static void clusterLines() {
        CHECKS.says("'cluster' NAME CORES IDLE WAKE (1 .. 3; 0 .. 99; 0 .. 99)");
        bounds(0, "cluster a # 0 0;" + PA, 1, 3);
        bounds(0, "cluster a 1 # 0;" + PA, 0, 99);
        bounds(0, "cluster a 1 0 #;" + PA, 0, 99);
        SpeedDesk desk = Checks.chip("cluster a 3 99 98;cluster b 1 0 0;point a 9 1;point b 9 1");
        CHECKS.row("as told", new int[] {desk.cluster(0, 0), desk.cluster(0, 1), desk.cluster(0, 2), desk.cluster(1, 0), desk.cluster(1, 1),
            desk.cluster(1, 2)}, 3, 99, 98, 1, 0, 0);
    }

    private static void pointLines() {
        CHECKS.says("'point' CLUSTER SPEED COST (1 .. 99, 1 .. 99; SPEED above that of its last POINT)");
        bounds(0, A + "point a # 1", 1, 99);
        bounds(0, A + "point a 1 #", 1, 99);
        chip(A + "point a 5 1;point a 4 1", 36);
        chip(A + "point a 5 1;point a 5 1", 36);
        chip(A + "point a 5 1;point a 6 1", -1);
        chip(A + "point a 99 1;point a 99 1", 37);
        chip(A + "point a 98 1;point a 99 1", -1);
        chip(A + "cluster b 1 0 0;point a 9 1;point b 5 1;point b 6 1", -1);
        chip(A + "point a 5 99;point a 6 1;point a 7 1", -1);
        SpeedDesk desk = Checks.chip(A + "point a 1 99;point a 99 1");
        CHECKS.row("as told", new int[] {desk.point(0, 0, 0), desk.point(0, 0, 1), desk.point(0, 1, 0), desk.point(0, 1, 1)}, 1, 99, 99, 1);
    }

    private static void taskLines() {
        CHECKS.says("'task' NAME WORK PERIOD (1 .. 999, 1 .. 20)");
        bounds(0, CHIP + ";task t # 1", 1, 999);
        bounds(0, CHIP + ";task t 1 #", 1, 20);
        SpeedDesk desk = Checks.chip(CHIP + ";task t 999 20;task u 1 1");
        CHECKS.row("as told", new int[] {desk.task(0, 0), desk.task(0, 1), desk.task(1, 0), desk.task(1, 1)}, 999, 20, 1, 1);
    }

    private static void ruleLines() {
        CHECKS.says("each once at most, 'margin' N (0 .. 100; 25 without), 'hold' N (0 .. 20; 3), 'sleep' N (1 .. 20; 2), "
                + "'boost' N (0 .. 9; 0), 'limit' N (1 .. 9999; 9999), 'cool' N (2 .. 16; 8)");
        rule(0, "margin", 0, 100, 25);
        rule(1, "hold", 0, 20, 3);
        rule(2, "sleep", 1, 20, 2);
        rule(3, "boost", 0, 9, 0);
        rule(4, "limit", 1, 9999, 9999);
        rule(5, "cool", 2, 16, 8);
    }

    private static void rule(int what, String word, int least, int most, int without) {
        bounds(0, word + " #;" + CHIP, least, most);
        chip(word + " 2;" + CHIP + ";" + word + " 2", word.length() + 3 + 27 + 1);
        chip(word + " 2;" + word + " 3;" + CHIP, word.length() + 3);
        SpeedDesk desk = Checks.chip(CHIP + ";" + word + " " + least);
        CHECKS.due("least " + word, desk.rule(what), least);
        Checks.tape(desk, CHIP + ";" + word + " " + most).text(0);
        CHECKS.due("most " + word + ", of another chip", desk.rule(what), most);
        Checks.tape(desk, CHIP).text(0);
        CHECKS.due("without " + word, desk.rule(what), without);
    }

    private static void howManyOfAChip() {
        CHECKS.says("3 CLUSTERS, 5 POINTS of each, 4 TASKS, 6 CORES in all at most");
        String clusters = "cluster a 2 0 0;cluster b 2 0 0;cluster c 2 0 0;";
        String points = "";
        for (int p = 1; p <= 5; p++) {
            points += "point a " + p + " 1;point b " + p + " 1;point c " + p + " 1;";
        }
        String tasks = "task s 1 1;task t 1 1;task u 1 1;task v 1 1";
        SpeedDesk desk = Checks.chip(clusters + points + tasks);
        CHECKS.row("all that may be", new int[] {desk.count(0), desk.cluster(0, 3), desk.cluster(1, 3), desk.cluster(2, 3), desk.count(5), desk.rule(7)},
            3, 5, 5, 5, 4, 6);
        chip(clusters + "cluster d 1 0 0", 48);
        chip(clusters + points + "point c 6 1", 234);
        chip(clusters + points + tasks + ";task w 1 1", 228 + 44);
        chip("cluster a 3 0 0;cluster b 3 0 0;point a 1 1;point b 1 1", -1);
        chip("cluster a 3 0 0;cluster b 3 0 0;cluster c 1 0 0", 42);
        chip("cluster a 3 0 0;cluster b 2 0 0;cluster c 1 0 0;point a 1 1;point b 1 1;point c 1 1", -1);
        chip("cluster a 3 0 0;cluster b 2 0 0;cluster c 2 0 0", 42);
        chip("cluster a 1 0 0;cluster b 3 0 0;cluster c 3 0 0", 42);
    }

    private static void oneAtLeast() {
        CHECKS.says("one CLUSTER at least, one POINT of each");
        CHECKS.says("the length, if a CLUSTER is without POINTS or there is none");
        chip("hold 1", 6);
        chip("task t 1 1 ", 11);
        chip("cluster a 1 0 0", 15);
        chip("cluster a 1 0 0  ", 17);
        chip("cluster a 1 0 0;cluster b 1 0 0;point b 1 1", 43);
        chip("cluster a 1 0 0;cluster b 1 0 0;point a 1 1", 43);
        chip("cluster a 1 0 0;cluster b 1 0 0;cluster c 1 0 0;point a 1 1;point c 1 1", 71);
        chip("cluster a 1 0 0;cluster b 1 0 0;point a 1 1;point b 1 1", -1);
    }

    private static void howManyScripts() {
        CHECKS.says("A SCRIPT (4 at most)");
        SpeedDesk desk = new SpeedDesk();
        for (int i = 0; i < 4; i++) {
            CHECKS.due("script " + i, Checks.script(desk, "tick " + (i + 1)), i);
        }
        CHECKS.due("a fifth", Checks.script(desk, "tick 5"), -1);
        CHECKS.row("four are kept", new int[] {desk.count(1), desk.step(0, 0, 1), desk.step(3, 0, 1), desk.step(4, 0, 1)}, 4, 1, 4, -1000000);
    }

    private static void howManySteps() {
        CHECKS.says("STEPS with ; between, 1 to 12");
        script("", 0);
        script("settle", -1);
        script("settle;settle", -1);
        script(";settle", 0);
        script("settle;", 7);
        script("settle;;settle", 7);
        script("settle settle", 7);
        String eleven = "settle" + Checks.repeated(";settle", 10);
        script(eleven + ";settle", -1);
        script(eleven + ";settle;settle", 83);
        SpeedDesk desk = new SpeedDesk();
        Checks.script(desk, eleven + ";tick 7");
        CHECKS.row("the twelfth", new int[] {desk.step(0, 11, 1), desk.step(0, 12, 0)}, 7, -1000000);
        CHECKS.says("the ; ahead of a 13th STEP");
        script(eleven + ";settle ; settle", 84);
        script(eleven + ";settle;", 83);
    }

    private static void stepNumbers() {
        CHECKS.says("'tick' N (1 .. 60), 'move' TASK CORE, 'ask' ASKER CLUSTER LOW HIGH, 'drop' ASKER CLUSTER, 'stop' TASK, 'start' TASK (numbers 0 .. 9;");
        bounds(1, "tick #", 1, 60);
        bounds(1, "move # 0", 0, 9);
        bounds(1, "move 0 #", 0, 9);
        bounds(1, "ask bob # 0 0", 0, 9);
        bounds(1, "ask bob 0 # 0", 0, 9);
        bounds(1, "ask bob 0 0 #", 0, 9);
        bounds(1, "drop bob #", 0, 9);
        bounds(1, "stop #", 0, 9);
        bounds(1, "start #", 0, 9);
        script("ask bob 0 9 0", -1);
        CHECKS.says("CORES, POINTS and TASKS and CLUSTERS are numbered from 0");
        SpeedDesk desk = Checks.chip("cluster a 1 0 0;cluster b 1 0 0;point a 9 1;point b 1 1;point b 2 1;task t 1 1;task u 1 1");
        Checks.script(desk, "move 1 1;move 0 1;move 0 0;ask bob 1 1 1;ask bob 0 0 0;drop bob 1;stop 1;stop 0;start 0");
        CHECKS.row("the first and the last", new int[] {desk.run(0, 0), desk.perform(0), desk.task(0, 2), desk.task(1, 2), desk.all(5), desk.asked(0, 0)}, -1, 9, 0, 1, 2, 0);
        Checks.script(desk, "move 2 0");
        Checks.script(desk, "move 0 2");
        Checks.script(desk, "ask bob 2 0 0");
        CHECKS.row("one more than the last", new int[] {desk.run(1, 0), desk.run(2, 0), desk.run(3, 0), desk.perform(1), desk.perform(2), desk.perform(3)}, 0, 0, 0, 0, 0, 0);
    }

    private static void words() {
        CHECKS.says("A WORD is letters (a to z), as many as stand one behind another, 1 to 7");
        asker("", 0);
        asker("a", -1);
        asker("z", -1);
        asker("abcdefg", -1);
        asker("abcdefgh", 0);
        asker("  abcdefgh", 2);
        asker(Checks.repeated("a", 320), 0);
        asker("`", 0);
        asker("{", 0);
        asker("A", 0);
        asker("abC", 2);
        asker("ab`", 2);
        asker("ab{", 2);
        chip("cluster abcdefg 1 0 0;point abcdefg 1 1", -1);
        chip("cluster abcdefgh 1 0 0;point abcdefgh 1 1", 8);
        chip("clusterr a 1 0 0;" + PA, 0);
        chip("clustera 1 0 0;" + PA, 0);
        script("settl", 0);
        script("settlee", 0);
    }

    private static void numbers() {
        CHECKS.says("a NUMBER is digits, as many as stand one behind another (it goes by what it is worth)");
        script("tick 09", -1);
        script("tick 00", 5);
        script("tick " + Checks.repeated("0", 300) + "60", -1);
        script("tick " + Checks.repeated("0", 300) + "61", 5);
        script("tick " + Checks.repeated("9", 300), 5);
        // worth 1 or 5, if they went round
        for (String round : new String[] {"257", "65537", "4294967297", "8589934597", "18446744073709551617", "10000000001", "1000000000000000005"}) {
            script("tick " + round, 5);
        }
        script("tick /", 5);
        script("tick :", 5);
        script("tick 5/", 6);
        script("tick 5:", 6);
        script("tick 5 5", 7);
        script("move 05", 7);
        SpeedDesk desk = new SpeedDesk();
        Checks.script(desk, "tick 00060;tick 0001");
        CHECKS.row("what they are worth", new int[] {desk.step(0, 0, 1), desk.step(0, 1, 1)}, 60, 1);
        desk = Checks.chip("limit 0009999;" + CHIP);
        CHECKS.due("the greatest", desk.rule(4), 9999);
        chip("limit 10000;" + CHIP, 6);
        chip("limit 1000001;" + CHIP, 6);
    }

    private static void namesOfAChip() {
        CHECKS.says("A NAME is a WORD none of those told here, told once in a CHIP");
        for (String word : WORDS) {
            chip("cluster " + word + " 1 0 0;point " + word + " 1 1", 8);
            chip(CHIP + ";task " + word + " 1 1", 33);
            String longer = word.length() < 7 ? word + "z" : word.substring(1);
            chip("cluster " + longer + " 1 0 0;point " + longer + " 1 1", -1);
            String shorter = word.substring(0, word.length() - 1);
            chip(CHIP + ";task " + shorter + " 1 1", -1);
        }
        chip(A + "cluster a 1 0 0;" + PA, 24);
        chip(CHIP + ";task a 1 1", 33);
        chip("task a 1 1;" + CHIP, 19);
        chip(CHIP + ";task t 1 1;task t 1 1", 44);
        chip(CHIP + ";task t 1 1;task u 1 1;task v 1 1;task t 1 1", 66);
        chip(CHIP + ";task t 1 1;task tt 1 1;task ttttttt 1 1", -1);
        CHECKS.due("told again in another chip", Checks.tape(Checks.chip(CHIP + ";task t 1 1"), CHIP + ";task t 1 1").text(0), 1);
    }

    private static void byNameOrNumber() {
        CHECKS.says("CLUSTER, TASK in a CHIP are told by NAME, in a SCRIPT by number");
        chip(A + "point 0 9 1", 22);
        script("move t 0", 5);
        script("move 0 a", 7);
        script("ask bob a 0 0", 8);
        script("drop bob a", 9);
        script("stop t", 5);
        script("start t", 6);
    }

    private static void askers() {
        CHECKS.says("an ASKER is a WORD that may be any");
        for (String word : WORDS) {
            asker(word, -1);
            script("ask " + word + " 0 0 0;drop " + word + " 0", -1);
        }
        SpeedDesk desk = Checks.chip(CHIP + ";task t 1 1");
        CHECKS.row("names of the chip, too", new int[] {Checks.ask(desk, "a", 0, 0, 0), Checks.ask(desk, "t", 0, 0, 0), Checks.ask(desk, "cluster", 0, 0, 0)}, 0, 1, 2);
        script("ask 1 0 0 0", 4);
        script("ask 0 0 0", 4);
        script("drop 0", 5);
    }

    private static void blanks() {
        CHECKS.says("Blanks (32) may stand ahead of and behind all these, and ;.");
        chip("   cluster   a   1   0   0   ;   point   a   9   1   ;   hold   3   ", -1);
        chip("cluster a1 0 0;point a9 1;task t1 1;hold3", -1);
        script("  tick  5  ;  move  0  1  ;  ask  bob  0  1  2  ;  settle  ", -1);
        script("tick5;move0 1;ask bob0 1 2;drop bob0;stop0;start0;settle", -1);
        asker("   bob   ", -1);
        for (int other : new int[] {9, 10, 13, 31, 33, 160, 255, 1}) {
            char c = (char) other;
            chip(c + CHIP, 0);
            chip("cluster" + c + "a 1 0 0;" + PA, 7);
            chip("cluster a" + c + "1 0 0;" + PA, 9);
            chip("cluster a 1" + c + "0 0;" + PA, 11);
            chip("cluster a 1 0 0" + c + ";" + PA, 15);
            chip(A + c + PA, 16);
            chip(CHIP + c, 27);
            asker(c + "bob", 0);
            asker("bob" + c, 3);
        }
    }

    private static void firstFault() {
        CHECKS.says("FAULT: where the first part begins that can't be");
        chip("cluster a 9 100 100;point b 0 0;x", 10);
        chip("cluster a 1 100 100;point b 0 0;x", 12);
        chip("cluster a 1 0 100;point b 0 0;x", 14);
        chip(A + "point b 0 0;x", 22);
        chip(A + "point a 0 0;x", 24);
        chip(A + "point a 1 0;x", 26);
        chip(A + "point a 1 1;x", 28);
        chip(A + "task a 0 0", 21);
        chip(A + "task t 0 0", 23);
        chip(A + "task t 1 0", 25);
        chip("cluster   9", 10);
        script("move 10 10;x", 5);
        script("move 0 10;x", 7);
        script("move 0 0;x", 9);
    }

    private static void textsThatEndTooEarly() {
        CHECKS.says("(the length, if the TEXT ends too early)");
        for (int n = 0; n <= CHIP.length(); n++) {
            boolean brokenWord = n > 0 && n < 7 || n > 16 && n < 21;
            chip(CHIP.substring(0, n), n == CHIP.length() ? -1 : !brokenWord ? n : n < 7 ? 0 : 16);
        }
        String steps = "tick 5;ask bob 0 1 2;settle";
        for (int n = 0; n <= steps.length(); n++) {
            boolean whole = n == 6 || n == 20 || n == 27;
            int word = n > 20 ? 21 : n > 6 ? 7 : 0;
            boolean brokenWord = n > word && n < word + (word == 0 ? 4 : word == 7 ? 3 : 6);
            script(steps.substring(0, n), whole ? -1 : brokenWord ? word : n);
        }
        chip("cluster  ", 9);
        chip(" ", 1);
        chip(CHIP + " ; ", 30);
        script("ask bob  ", 9);
        script("   ", 3);
        script("tick 5 ;  ", 10);
        asker("   ", 3);
    }

    private static void faultsOfWords() {
        CHECKS.says("a WORD, NAME that can't stand there, is not told or was, a NUMBER out of bounds");
        chip("tick 1", 0);
        chip("settle", 0);
        chip("a 1 0 0", 0);
        chip(A + "point point 9 1", 22);
        chip(A + "point b 9 1", 22);
        chip("task t 1 1;" + A + "point t 9 1", 33);
        chip("cluster 1 1 0 0", 8);
        chip("cluster a b 0 0", 10);
        chip("hold x", 5);
        script("cluster 1", 0);
        script("hold 1", 0);
        script("bob", 0);
        script("tick x", 5);
        script("settle x", 7);
        script("settle 1", 7);
        asker("1", 0);
        asker("bob 1", 4);
        asker("bob bob", 4);
        asker("bob;", 3);
        asker("bob;bob", 3);
    }

    private static void faultsOfTooMany() {
        CHECKS.says("one more CLUSTER, TASK than there may be (at the LINE's first WORD), a sixth POINT (at its CLUSTER), more than 6 CORES (at CORES)");
        String three = "cluster a 1 0 0;cluster b 1 0 0;cluster c 1 0 0;";
        chip(three + "  cluster a 9 9 9", 50);
        chip(three + "cluster", 48);
        String four = CHIP + ";task s 1 1;task t 1 1;task u 1 1;task v 1 1;";
        chip(four + " task s 0 0", 73);
        chip(four + "task", 72);
        String five = A + "point a 1 1;point a 2 1;point a 3 1;point a 4 1;point a 5 1;";
        chip(five + "point  a 1 0", 83);
        chip(five + "point b 1 0", 82);
        chip("cluster a 3 0 0;cluster b 3 0 0;cluster c  1 999 0", 43);
    }

    private static void otherBytes() {
        CHECKS.says("any other byte");
        for (int b : new int[] {1, 33, 44, 47, 58, 60, 64, 65, 90, 91, 96, 123, 127, 128, 192, 255}) {
            char c = (char) b;
            chip("clus" + c + "er a 1 0 0", 0);
            chip("cluster a 1 0 0;" + c + PA, 16);
            chip(A + "point a 9" + c + "1", 25);
            chip(CHIP + c, 27);
            script("tick 1" + c, 6);
            script(c + "tick 1", 0);
            asker("bob" + c, 3);
        }
    }

    // ---- promises 1 to 5

    private static void newObject() {
        CHECKS.says("`SpeedDesk()`: No CHIP.");
        SpeedDesk desk = new SpeedDesk();
        for (int what = 0; what <= 6; what++) {
            CHECKS.due("count(" + what + ")", desk.count(what), 0);
        }
        for (int what = 0; what <= 3; what++) {
            CHECKS.due("status(" + what + ")", desk.status(what), 0);
        }
        CHECKS.row("none", new int[] {desk.rule(0), desk.point(0, 0, 0), desk.core(0, 0), desk.task(0, 0), desk.name(0, 0, 0), desk.asked(0, 0),
            desk.years(1, 0L), desk.undo(), desk.log(0, 0), desk.price(), desk.best(0, 0), desk.greedy(0, 0), desk.moves(), desk.race(0, 1, 1, 0),
            desk.ahead(0, 0), desk.bound(0, 1), desk.odds(0), desk.step(0, 0, 0), desk.run(0, 0), desk.perform(0), desk.all(0), desk.image(), desk.back()},
            -1, -1, -1000000, -1, -1, -1, -1, -1, -1000000, -1, -1, -1, -1, -1000000, -1, -1, -1, -1000000, -1000000, -1, -1000000, -1, -1);
        CHECKS.clusterThrows(desk, 0, 0);
        CHECKS.due("the tape is empty", desk.fault(2), 0);
        CHECKS.says("`NONE = -1`: None; refused.");
        CHECKS.due("NONE", SpeedDesk.NONE, -1);
        CHECKS.says("`HIDDEN = -1000000`: Not told.");
        CHECKS.due("HIDDEN", SpeedDesk.HIDDEN, -1000000);
    }

    /** The asker on the tape, as asking tells it back. */
    private static String askerOf(SpeedDesk desk) {
        int ask = desk.ask(0, 0, 0);
        String name = "";
        for (int i = 0; desk.name(2, ask, i) != -1; i++) {
            name += (char) desk.name(2, ask, i);
        }
        return name;
    }

    private static void feeding() {
        CHECKS.says("Twenty bytes more come to the TAPE (of each number the highest first; bytes of 0 are left out): how many it has.");
        SpeedDesk desk = Checks.chip(CHIP);
        CHECKS.due("of the first number", desk.feed(0x61626364, 0, 0, 0, 0), 4);
        CHECKS.due("in their order", askerOf(desk).equals("abcd"), true);
        CHECKS.due("one of each", desk.feed('b', 'c', 'd', 'e', 'f'), 5);
        CHECKS.due("in their order", askerOf(desk).equals("bcdef"), true);
        CHECKS.due("between bytes of 0", desk.feed(0x63000064, 0x00650000, 0, 0x00006600, 0x67000000), 5);
        CHECKS.due("in their order", askerOf(desk).equals("cdefg"), true);
        CHECKS.due("none", desk.feed(0, 0, 0, 0, 0), 0);
        CHECKS.due("a first", desk.feed(0, 0, 0x64, 0, 0), 1);
        CHECKS.due("behind it", desk.feed(0, 0x65000000, 0, 0, 0), 2);
        CHECKS.due("in their order", askerOf(desk).equals("de"), true);
        CHECKS.due("bytes above 127 are bytes", desk.feed(0x80ff8180, -1, 0x00ff0080, 0xff000000, 0x80), 12);
    }

    private static void feedingTooMuch() {
        CHECKS.says("NONE: more than 320.");
        SpeedDesk full = new SpeedDesk();
        for (int i = 1; i <= 16; i++) {
            CHECKS.due("feed " + i, full.feed(-1, 0x01010101, 0x20202020, 0x7fffffff, 0x80808080), 20 * i);
        }
        CHECKS.row("full", new int[] {full.feed(0, 0, 0, 0, 0), full.feed(1, 0, 0, 0, 0), full.feed(-1, -1, -1, -1, -1), full.count(2)}, 320, -1, -1, 320);
        for (int of = 0; of < 5; of++) {
            for (int shift = 0; shift < 32; shift += 8) {
                int[] one = new int[5];
                one[of] = 255 << shift;
                CHECKS.due("a byte of number " + of, full.feed(one[0], one[1], one[2], one[3], one[4]), -1);
                full.end(319);
                CHECKS.due("a byte that fits, of number " + of, full.feed(one[0], one[1], one[2], one[3], one[4]), 320);
            }
        }
        for (int i = 0; i < 5; i++) {
            for (int j = 0; j < 5; j++) {
                int[] two = new int[5];
                two[i] = 0x61;
                two[j] |= 0x6200;
                full.end(319);
                CHECKS.due("two bytes", full.feed(two[0], two[1], two[2], two[3], two[4]), -1);
                CHECKS.due("none of them came", full.count(2), 319);
                full.end(318);
                CHECKS.due("two bytes that fit", full.feed(two[0], two[1], two[2], two[3], two[4]), 320);
            }
        }
    }

    private static void ending() {
        CHECKS.says("The TAPE has its first n bytes alone. False: n.");
        SpeedDesk desk = Checks.tape(new SpeedDesk(), "abcdef");
        for (int n : new int[] {-1, 7, 321, Integer.MIN_VALUE, Integer.MAX_VALUE}) {
            CHECKS.due("end(" + n + ")", desk.end(n), false);
            CHECKS.due("the tape stays", desk.count(2), 6);
        }
        CHECKS.due("end(6)", desk.end(6), true);
        CHECKS.due("all of it", desk.count(2), 6);
        CHECKS.due("end(2)", desk.end(2), true);
        CHECKS.due("end(3)", desk.end(3), false);
        CHECKS.due("two", desk.count(2), 2);
        Checks.feed(desk, "z");
        SpeedDesk other = Checks.chip(CHIP);
        Checks.feed(other, "abcdef").end(2);
        Checks.feed(other, "z");
        CHECKS.due("its first bytes", askerOf(other).equals("abz"), true);
        CHECKS.due("end(0)", desk.end(0), true);
        CHECKS.due("none", desk.count(2), 0);
        CHECKS.due("end(0) of none", desk.end(0), true);
        CHECKS.due("end(1) of none", desk.end(1), false);
    }

    private static void faultSorts() {
        CHECKS.says("The FAULT of the TAPE as a CHIP (0), a SCRIPT (1), an ASKER (2: one WORD, blanks as they like). NONE: none. -2: no such sort.");
        SpeedDesk desk = Checks.tape(new SpeedDesk(), "bob");
        CHECKS.row("of an asker", new int[] {desk.fault(0), desk.fault(1), desk.fault(2), desk.fault(-1), desk.fault(3), desk.fault(Integer.MAX_VALUE),
            desk.fault(Integer.MIN_VALUE)}, 0, 0, -1, -2, -2, -2, -2);
        Checks.tape(desk, CHIP);
        CHECKS.row("of a chip", new int[] {desk.fault(0), desk.fault(1), desk.fault(2), desk.fault(3)}, -1, 0, 8, -2);
        Checks.tape(desk, " settle ");
        CHECKS.row("of a script", new int[] {desk.fault(0), desk.fault(1), desk.fault(2), desk.count(2), desk.count(1)}, 1, -1, -1, 8, 0);
        Checks.tape(desk, "");
        CHECKS.row("of nothing", new int[] {desk.fault(0), desk.fault(1), desk.fault(2), desk.fault(3)}, 0, 0, 0, -2);
    }

    /** What a chip that is taken leaves as if the object were new; scripts, status apart. */
    private static int[] stateOf(SpeedDesk desk) {
        int[] facts = new int[200];
        int n = 0;
        for (int what = 0; what < 10; what++) {
            facts[n++] = desk.all(what);
            facts[n++] = desk.rule(what);
        }
        for (int c = 0; c < desk.count(0); c++) {
            for (int what = 0; what <= 10; what++) {
                facts[n++] = desk.cluster(c, what);
            }
        }
        for (int k = 0; k < 7; k++) {
            for (int what = 0; what < 5; what++) {
                facts[n++] = desk.core(k, what);
            }
        }
        for (int t = 0; t < 4; t++) {
            for (int what = 0; what < 8; what++) {
                facts[n++] = desk.task(t, what);
            }
        }
        for (int c = 0; c < 3; c++) {
            for (int p = 0; p < 5; p++) {
                facts[n++] = desk.point(c, p, 0) * 100 + desk.point(c, p, 1);
            }
        }
        for (int what : new int[] {0, 2, 3, 4, 5, 6}) {
            facts[n++] = desk.count(what);
        }
        facts[n++] = desk.log(0, 0);
        facts[n++] = desk.asked(0, 0);
        facts[n++] = desk.name(1, 0, 0);
        facts[n++] = desk.name(0, 1, 0);
        return facts;
    }

    private static final String SMALL = "cluster x 1 2 3;point x 5 4;task r 3 2;sleep 9";
    private static final String LARGE = "margin 1;hold 1;sleep 1;boost 5;limit 9;cool 3;cluster a 2 3 4;cluster b 1 5 6;cluster c 3 7 8;"
            + "point a 1 1;point a 7 2;point a 99 3;point b 5 5;point b 6 6;point c 4 4;point c 8 8;task s 9 3;task t 8 4;task u 7 5;task v 50 6";

    /** Every fact of tasks, clusters, cores, asks is another one than at first behind this. */
    private static void use(SpeedDesk desk) {
        Checks.script(desk, "tick 1");
        Checks.ask(desk, "bob", 0, 2, 2);
        Checks.ask(desk, "eve", 2, 1, 1);
        desk.move(1, 2);
        desk.move(2, 5);
        desk.move(3, 4);
        desk.tick(31);
        desk.stop(2);
        desk.tick(22);
        desk.image();
        desk.stop(0);
        desk.stop(1);
        desk.stop(3);
        desk.tick(3);
        desk.settle();
        desk.tick(61);
    }

    private static void takingChips() {
        CHECKS.says("The TAPE (empty then) is the CHIP (all that was of another one is gone but SCRIPTS, STATUS): how many CLUSTERS");
        SpeedDesk desk = Checks.chip(LARGE);
        use(desk);
        CHECKS.row("it was in use", new int[] {desk.count(6), desk.count(1), desk.status(1), desk.all(3) > 0 ? 1 : 0, desk.all(4), desk.all(5),
            desk.core(0, 2), desk.core(5, 2) > 0 ? 1 : 0}, 2, 1, 1, 1, 63, 15, 3, 1);
        CHECKS.due("another chip", Checks.tape(desk, SMALL).text(0), 1);
        CHECKS.row("all is as of a new object", stateOf(desk), stateOf(Checks.chip(SMALL)));
        CHECKS.row("no act, no image", new int[] {desk.undo(), desk.back()}, -1, -1);
        CHECKS.row("scripts and status stay", new int[] {desk.count(1), desk.step(0, 0, 1), desk.status(1), desk.run(0, 0)}, 1, 1, 1, -1);
        CHECKS.due("three clusters again", Checks.tape(desk, LARGE).text(0), 3);
        CHECKS.row("all is as of a new object", stateOf(desk), stateOf(Checks.chip(LARGE)));
        use(desk);
        CHECKS.due("the same chip again", Checks.tape(desk, LARGE).text(0), 3);
        CHECKS.row("all is as of a new object", stateOf(desk), stateOf(Checks.chip(LARGE)));
    }

    /** What is kept of earlier chips must not show in later ones. */
    private static void chipsOneBehindAnother() {
        String[] chips = {LARGE, SMALL, LARGE, CHIP, SMALL, CHIP, LARGE, LARGE, CHIP};
        SpeedDesk desk = new SpeedDesk();
        for (String text : chips) {
            Checks.tape(desk, text);
            CHECKS.due("fault(0)", desk.fault(0), -1);
            CHECKS.due("text(0)", desk.text(0), text.equals(LARGE) ? 3 : 1);
            SpeedDesk fresh = Checks.chip(text);
            CHECKS.row("rules", rulesOf(desk), rulesOf(fresh));
            CHECKS.row("tasks, points", new int[] {desk.count(5), desk.cluster(0, 3), desk.core(1, 0), desk.point(1, 0, 0), desk.task(1, 0)},
                fresh.count(5), fresh.cluster(0, 3), fresh.core(1, 0), fresh.point(1, 0, 0), fresh.task(1, 0));
            desk.tick(7);
            fresh.tick(7);
            CHECKS.row("behind ticks", new int[] {desk.all(2), desk.all(3), desk.all(4), desk.best(0, 0)}, fresh.all(2), fresh.all(3), fresh.all(4), fresh.best(0, 0));
        }
    }

    private static int[] rulesOf(SpeedDesk desk) {
        int[] rules = new int[8];
        for (int what = 0; what < 8; what++) {
            rules[what] = desk.rule(what);
        }
        return rules;
    }

    private static void takingScripts() {
        CHECKS.says("a SCRIPT: its number");
        SpeedDesk desk = new SpeedDesk();
        CHECKS.row("of a long one, then a short one", new int[] {Checks.script(desk, "settle;settle;settle"), desk.count(2), Checks.script(desk, "tick 4"),
            desk.count(2), desk.step(0, 2, 0), desk.step(1, 0, 1), desk.step(1, 1, 0)}, 0, 0, 1, 0, 6, 4, -1000000);
        Checks.tape(desk, "settle;settle;tick 0");
        CHECKS.row("one with a fault is none", new int[] {desk.fault(1), desk.text(1), desk.count(1), desk.step(2, 0, 0)}, 19, -1, 2, -1000000);
        CHECKS.row("the next", new int[] {Checks.script(desk, "stop 3"), desk.step(2, 0, 1), desk.step(2, 1, 0), desk.step(1, 0, 1)}, 2, 3, -1000000, 4);
    }

    private static void refusedTexts() {
        CHECKS.says("NONE: a FAULT (the TAPE stays), no such sort, there are four SCRIPTS.");
        SpeedDesk desk = Checks.chip(LARGE);
        use(desk);
        SpeedDesk twin = Checks.chip(LARGE);
        use(twin);
        Checks.tape(desk, CHIP + ";x");
        CHECKS.row("a fault", new int[] {desk.text(0), desk.text(1), desk.count(2), desk.status(0), desk.status(1)}, -1, -1, 29, 0, 1);
        Checks.tape(desk, CHIP);
        CHECKS.row("no such sort", new int[] {desk.text(-1), desk.text(2), desk.text(3), desk.text(Integer.MAX_VALUE), desk.count(2)}, -1, -1, -1, -1, 27);
        for (int i = 1; i < 4; i++) {
            Checks.script(desk, "tick 2");
        }
        Checks.tape(desk, "tick 3");
        CHECKS.row("four scripts", new int[] {desk.text(1), desk.count(2), desk.count(1), desk.step(3, 0, 1), desk.fault(1)}, -1, 6, 4, 2, -1);
        desk.end(0);
        CHECKS.row("nothing else changed", stateOf(desk), stateOf(twin));
        CHECKS.row("nor the image, nor the acts", new int[] {desk.undo(), desk.back()}, twin.undo(), twin.back());
    }

    // ---- promises 11 and 32

    private static void namesTold() {
        CHECKS.says("Byte i of the NAME of a CLUSTER (sort 0), a TASK (1), the ASKER of an ASK (2). NONE: no such ones.");
        SpeedDesk desk = Checks.chip("cluster abcdefg 1 0 0;point abcdefg 9 1;task z 1 1;task qrstuvw 1 1");
        Checks.ask(desk, " hijklmn ", 0, 0, 0);
        Checks.ask(desk, "o", 0, 0, 0);
        for (int i = 0; i < 7; i++) {
            CHECKS.row("letter " + i, new int[] {desk.name(0, 0, i), desk.name(1, 1, i), desk.name(2, 0, i)}, 'a' + i, 'q' + i, 'h' + i);
        }
        CHECKS.row("one letter", new int[] {desk.name(1, 0, 0), desk.name(1, 0, 1), desk.name(2, 1, 0), desk.name(2, 1, 1)}, 'z', -1, 'o', -1);
        for (int sort = 0; sort < 3; sort++) {
            CHECKS.row("no such byte", new int[] {desk.name(sort, 0, 7), desk.name(sort, 0, 8), desk.name(sort, 0, -1), desk.name(sort, 0, Integer.MAX_VALUE),
                desk.name(sort, 0, Integer.MIN_VALUE)}, -1, -1, -1, -1, -1);
        }
        CHECKS.row("no such number", new int[] {desk.name(0, 1, 0), desk.name(1, 2, 0), desk.name(2, 2, 0), desk.name(0, -1, 0), desk.name(1, -1, 0),
            desk.name(2, -1, 0)}, -1, -1, -1, -1, -1, -1);
        CHECKS.row("no such sort", new int[] {desk.name(3, 0, 0), desk.name(-1, 0, 0)}, -1, -1);
        desk.undo();
        CHECKS.due("an ask undone", desk.name(2, 1, 0), -1);
    }

    private static void stepsTold() {
        CHECKS.says("A STEP of a SCRIPT: 0 what (0 tick, 1 move, 2 ask, 3 drop, 4 stop, 5 start, 6 settle), 1 to 3 its numbers (NONE: there are fewer). HIDDEN: no such ones.");
        SpeedDesk desk = new SpeedDesk();
        Checks.script(desk, "ask bob 7 8 9;tick 60;move 1 2;settle;drop eve 6;stop 0;start 9");
        int[][] want = {{2, 7, 8, 9}, {0, 60, -1, -1}, {1, 1, 2, -1}, {6, -1, -1, -1}, {3, 6, -1, -1}, {4, 0, -1, -1}, {5, 9, -1, -1}};
        for (int i = 0; i < want.length; i++) {
            CHECKS.row("step " + i, new int[] {desk.step(0, i, 0), desk.step(0, i, 1), desk.step(0, i, 2), desk.step(0, i, 3)}, want[i]);
            CHECKS.row("no such what", new int[] {desk.step(0, i, 4), desk.step(0, i, -1)}, -1000000, -1000000);
        }
        CHECKS.row("no such step, script", new int[] {desk.step(0, 7, 0), desk.step(0, 12, 1), desk.step(0, -1, 0), desk.step(1, 0, 0), desk.step(-1, 0, 0),
            desk.step(4, 0, 0), desk.step(5, 0, 0)}, -1000000, -1000000, -1000000, -1000000, -1000000, -1000000, -1000000);
    }
}
