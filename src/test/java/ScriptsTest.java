/** Promises 33 and 34: scripts run apart and performed. */
public final class ScriptsTest {
    private static final String CHIP = "cluster a 2 1 5;point a 4 2;point a 8 3;task t 6 2;task u 2 1";
    private static final Checks CHECKS = new Checks();

    public static void main(String[] args) {
        running();
        performing();
        stepsThatCannotBe();
        noSuchOnes();
        longScripts();
        tapeStays();
        CHECKS.close("ScriptsTest");
    }

    private static void running() {
        SpeedDesk desk = Checks.chip(CHIP);
        Checks.script(desk, "tick 2;move 1 1;move 1 1;tick 5");
        Checks.script(desk, "stop 0;tick 1;start 0;tick 1");
        CHECKS.row("the third can't be", new int[] {desk.run(0, 0), desk.run(0, 1)}, 2, 20);
        CHECKS.due("all can be", desk.run(1, 0), -1);
        CHECKS.due("energy then: 2 by 2, idle 2, twice", desk.run(1, 1), 12);
        CHECKS.row("nothing changed", new int[] {desk.all(0), desk.all(2), desk.task(1, 2), desk.count(3), desk.count(4), desk.status(0), desk.status(2)},
            0, 0, 0, 0, 0, 0, 0);
        desk.move(1, 1);
        CHECKS.row("the second can't be now; both cores work", new int[] {desk.run(0, 0), desk.run(0, 1)}, 1, 24);
        Checks.script(desk, "move 1 1");
        CHECKS.row("the first can't be", new int[] {desk.run(2, 0), desk.run(2, 1), desk.perform(2), desk.count(4)}, 0, 0, 0, 1);
    }

    private static void performing() {
        SpeedDesk desk = Checks.chip(CHIP);
        Checks.script(desk, "tick 2;move 1 1;ask bob 0 1 1;stop 0;start 0;drop bob 0;tick 3;move 1 1;tick 5");
        CHECKS.due("seven can be", desk.perform(0), 7);
        CHECKS.row("each is an act", new int[] {desk.count(3), desk.count(4), desk.all(0), desk.status(2)}, 7, 7, 5, 0);
        int[] sorts = {0, 3, 5, 4, 2, 1, 0};
        int[] times = {5, 2, 2, 2, 2, 2, 2};
        for (int i = 0; i < 7; i++) {
            CHECKS.row("log " + i, new int[] {desk.log(i, 0), desk.log(i, 2)}, sorts[i], times[i]);
        }
        desk.undo();
        desk.undo();
        CHECKS.row("the asker is back", new int[] {desk.count(6), desk.name(2, 0, 0), desk.name(2, 0, 2), desk.cluster(0, 7)}, 1, 'b', 'b', 1);
        Checks.drop(desk, "bob", 0);
        Checks.script(desk, "settle;settle");
        CHECKS.row("settled already", new int[] {desk.perform(1), desk.move(0, 1), desk.move(1, 0), desk.perform(1), desk.log(0, 1)}, 0, 0, 1, 1, 2);
        Checks.script(desk, "tick 1;stop 1");
        CHECKS.row("all can be", new int[] {desk.perform(2), desk.run(2, 0)}, 2, 1);
    }

    private static void stepsThatCannotBe() {
        String[] steps = {"move 2 0", "move 0 2", "move 0 0", "ask a 1 0 0", "ask a 0 0 2", "ask a 0 2 2", "ask a 0 1 0", "drop a 0", "drop a 1",
            "stop 2", "start 0", "start 2"};
        for (String step : steps) {
            SpeedDesk desk = Checks.chip(CHIP);
            Checks.script(desk, "tick 1;" + step + ";tick 1");
            CHECKS.row(step, new int[] {desk.run(0, 0), desk.perform(0), desk.all(0), desk.count(4)}, 1, 1, 1, 1);
            CHECKS.row("no status by " + step, new int[] {desk.status(0), desk.status(1), desk.status(2), desk.status(3)}, 0, 0, 0, 0);
        }
        SpeedDesk desk = Checks.chip(CHIP);
        Checks.script(desk, "ask a 0 0 1;ask b 0 0 1;ask c 0 0 1;ask d 0 0 1;ask e 0 0 1;ask f 0 0 1;ask a 0 1 1;ask g 0 0 1");
        CHECKS.row("six asks", new int[] {desk.run(0, 0), desk.perform(0), desk.count(6), desk.cluster(0, 7)}, 7, 7, 6, 1);
        Checks.script(desk, "drop a 0;ask a 0 0 1;ask a 0 0 1");
        CHECKS.row("it is so", new int[] {desk.run(1, 0), desk.perform(1), desk.name(2, 5, 0)}, 2, 2, 'a');
    }

    private static void noSuchOnes() {
        SpeedDesk desk = new SpeedDesk();
        Checks.script(desk, "tick 1");
        CHECKS.row("no chip", new int[] {desk.run(0, 0), desk.run(0, 1), desk.perform(0)}, -1000000, -1000000, -1);
        Checks.tape(desk, CHIP).text(0);
        CHECKS.row("no such ones", new int[] {desk.run(1, 0), desk.run(-1, 0), desk.run(0, 2), desk.run(0, -1), desk.perform(1), desk.perform(-1)},
            -1000000, -1000000, -1000000, -1000000, -1, -1);
        CHECKS.row("of another chip", new int[] {desk.run(0, 0), desk.run(0, 1), desk.perform(0)}, -1, 10, 1);
    }

    private static void longScripts() {
        SpeedDesk desk = Checks.chip(CHIP);
        Checks.script(desk, "tick 60" + Checks.repeated(";tick 60", 11));
        for (int i = 1; i <= 13; i++) {
            CHECKS.row("twelve times 60", new int[] {desk.run(0, 0), desk.perform(0), desk.all(0)}, -1, 12, 720 * i);
        }
        CHECKS.row("up to 9,999", new int[] {desk.run(0, 0), desk.perform(0), desk.all(0), desk.perform(0), desk.status(3)}, 10, 10, 9960, 0, 0);
        CHECKS.row("the latest", new int[] {desk.count(3), desk.count(4)}, 60, 40);
    }

    private static void tapeStays() {
        SpeedDesk desk = Checks.chip(CHIP);
        Checks.script(desk, "ask bob 0 0 0;drop bob 0;ask eve 0 0 0");
        Checks.tape(desk, "ann");
        CHECKS.row("a script needs no tape", new int[] {desk.perform(0), desk.count(2), desk.name(2, 0, 0), desk.ask(0, 0, 1), desk.count(2)},
            3, 3, 'e', 1, 0);
    }
}
