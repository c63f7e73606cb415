import java.util.NoSuchElementException;
import java.util.Random;

/** Random runs of calls, each answered by the program and by the model; the seeds are fixed. */
public final class RandomRunsTest {
    private static final String[] WORDS = {"cluster", "point", "task", "margin", "hold", "sleep", "boost", "limit", "cool",
        "tick", "move", "ask", "drop", "stop", "start", "settle", "a", "b", "zz", "clusters", "z"};
    private static final String[] ASKERS = {"bob", "eve", " ask ", "a", "zzzzzzz", "tick", "h", "i"};
    private static int wrong;
    private static long made;

    private final Random random;
    private final StringBuilder told = new StringBuilder();
    private final int profile;
    private SpeedDesk desk;
    private Model model;

    private RandomRunsTest(long seed) {
        random = new Random(seed);
        profile = (int) (seed % 4);
    }

    public static void main(String[] args) {
        int runs = args.length > 0 ? Integer.parseInt(args[0]) : 400;
        int first = args.length > 1 ? Integer.parseInt(args[1]) : 0;
        for (int seed = first; seed < first + runs && wrong == 0; seed++) {
            new RandomRunsTest(seed).oneRun();
        }
        System.out.println("RandomRunsTest: " + made + " answers, " + wrong + " wrong");
        if (wrong != 0) {
            System.exit(1);
        }
    }

    private int draw(int below) {
        return random.nextInt(below);
    }

    private int from(int least, int most) {
        return least + draw(most - least + 1);
    }

    private void oneRun() {
        desk = new SpeedDesk();
        model = new Model();
        int calls = 0;
        if (draw(10) > 0) {
            calls += say(chipText());
            same("text(0)", desk.text(0), model.text(0));
        }
        while (calls < 480 && wrong == 0) {
            calls += oneCall();
        }
        if (wrong > 0) {
            System.out.println(told);
        }
    }

    private void same(String call, long got, long want) {
        made++;
        told.append(call).append(" = ").append(want).append('\n');
        if (got != want) {
            wrong++;
            told.append("  but the program answered ").append(got).append('\n');
        }
    }

    // ---- texts

    private String blanks() {
        return draw(8) == 0 ? " ".repeat(from(1, 3)) : "";
    }

    private String number(int least, int most) {
        int n = draw(60) == 0 ? most + 1 : draw(60) == 0 ? least - 1 : draw(6) == 0 ? most : draw(6) == 0 ? least : from(least, most);
        String s = n < 0 ? "-" + -n : "" + n;
        return " " + blanks() + (draw(15) == 0 ? "00" : "") + s + (draw(300) == 0 ? "00000000000" : "");
    }

    private String line(String... parts) {
        return blanks() + String.join("", parts) + blanks();
    }

    private String chipText() {
        StringBuilder s = new StringBuilder();
        int clusters = draw(40) == 0 ? 4 : from(1, 3);
        for (int c = 0; c < clusters; c++) {
            s.append(line("cluster ", "" + (char) ('a' + c), number(1, 6 / Math.max(2, clusters)), number(0, draw(2) == 0 ? 9 : 99), number(0, 99))).append(';');
            int points = draw(60) == 0 ? 6 : draw(80) == 0 ? 0 : from(1, 5);
            int speed = 0;
            for (int p = 0; p < points; p++) {
                speed += from(draw(60) == 0 ? 0 : 1, draw(3) == 0 ? 20 : 5);
                s.append(line("point ", "" + (char) ('a' + c), " " + speed, number(1, 30))).append(';');
            }
        }
        int tasks = draw(40) == 0 ? 5 : draw(4) > 0 ? from(2, 4) : from(0, 4);
        for (int t = 0; t < tasks; t++) {
            s.append(line("task ", "" + (char) ('s' + t), number(1, draw(12) == 0 ? 999 : draw(2) == 0 ? 60 : 15), number(1, draw(2) == 0 ? 20 : 5))).append(';');
        }
        appendRules(s);
        if (draw(40) > 0) {
            s.setLength(s.length() - 1);
        }
        return mutated(s);
    }

    private void appendRules(StringBuilder s) {
        String[] rules = {"margin", "hold", "sleep", "boost", "limit", "cool"};
        int[] least = {0, 0, 1, 0, 1, 2};
        int[] most = {100, draw(2) == 0 ? 20 : 4, draw(2) == 0 ? 20 : 4, 9, draw(2) == 0 ? 9999 : draw(2) == 0 ? 100 : 1500, 16};
        for (int r = 0; r < 6; r++) {
            if (draw(2) == 0) {
                s.append(line(rules[r], number(least[r], most[r]))).append(';');
            }
        }
    }

    private String scriptText() {
        StringBuilder s = new StringBuilder();
        int steps = draw(30) == 0 ? 13 : draw(4) == 0 ? 12 : from(1, 6);
        for (int i = 0; i < steps; i++) {
            s.append(i > 0 ? ";" : "").append(stepText());
        }
        if (draw(40) == 0) {
            s.append(';');
        }
        return mutated(s);
    }

    private String stepText() {
        int top = draw(8) == 0 ? 9 : 3;
        String asker = ASKERS[draw(ASKERS.length)];
        switch (draw(9)) {
            case 0:
            case 1:
            case 2:
                return line("tick", number(1, draw(3) == 0 ? 60 : 10));
            case 3:
                return line("move", number(0, top), number(0, top));
            case 4:
                return line("ask ", asker, number(0, draw(2)), number(0, draw(2)), number(0, top));
            case 5:
                return line("drop ", asker, number(0, draw(2)));
            case 6:
                return line("stop", number(0, top));
            case 7:
                return line("start", number(0, top));
            default:
                return line("settle");
        }
    }

    private String mutated(StringBuilder s) {
        for (int i = draw(12) == 0 ? from(1, 2) : 0; i > 0 && s.length() > 0; i--) {
            int at = draw(s.length());
            switch (draw(5)) {
                case 0:
                    s.deleteCharAt(at);
                    break;
                case 1:
                    s.setCharAt(at, (char) from(1, 255));
                    break;
                case 2:
                    s.insert(at, " " + WORDS[draw(WORDS.length)] + " ");
                    break;
                case 3:
                    s.insert(at, "; 019az".charAt(draw(7)));
                    break;
                default:
                    s.setLength(at);
            }
        }
        return s.toString();
    }

    /** How many calls. */
    private int say(String text) {
        int calls = 1;
        int cut = draw(30) == 0 ? from(-1, 30) : 0;
        same("end(" + cut + ")", desk.end(cut) ? 1 : 0, model.end(cut) ? 1 : 0);
        told.append("  text ").append(text).append('\n');
        for (int i = 0; i < text.length(); i += 20) {
            int[] five = new int[5];
            for (int j = 0; j < 20 && i + j < text.length(); j++) {
                five[j / 4] |= (text.charAt(i + j) & 255) << (24 - 8 * (j % 4));
            }
            same("feed", desk.feed(five[0], five[1], five[2], five[3], five[4]), model.feed(five[0], five[1], five[2], five[3], five[4]));
            calls++;
        }
        return calls;
    }

    // ---- calls

    private int oneCall() {
        int kind = draw(100);
        if (kind < 6) {
            return textCall();
        }
        if (kind < 40) {
            return actCall();
        }
        if (kind < 50) {
            return keepCall();
        }
        return kind < 80 ? tellCall() : planCall();
    }

    private int textCall() {
        int kind = draw(12);
        int calls = 3;
        int sort = kind == 0 && profile != 3 ? 0 : kind < 7 ? 1 : kind < 11 ? 2 : from(-1, 3);
        calls += say(sort == 0 ? chipText() : sort == 1 ? scriptText() : ASKERS[draw(ASKERS.length)]);
        for (int s = draw(3); s < 3; s++) {
            same("fault(" + s + ")", desk.fault(s), model.fault(s));
        }
        if (sort != 2) {
            same("text(" + sort + ")", desk.text(sort), model.text(sort));
        }
        return calls;
    }

    private int actCall() {
        int t = from(-1, draw(20) == 0 ? 4 : 3);
        int k = from(-1, draw(20) == 0 ? 6 : 4);
        switch (draw(profile == 3 ? 24 : 14)) {
            case 0:
                same("move(" + t + ", " + k + ")", desk.move(t, k), model.move(t, k));
                return 1;
            case 1:
                same("move(" + t + ", 0)", desk.move(t, 0), model.move(t, 0));
                return 1;
            case 2:
                same("stop(" + t + ")", desk.stop(t), model.stop(t));
                return 1;
            case 3:
            case 4:
                same("start(" + t + ")", desk.start(t), model.start(t));
                return 1;
            case 5:
                same("settle()", desk.settle(), model.settle());
                return 1;
            case 6:
            case 7:
                return askCall();
            case 8:
                long seed = draw(3) == 0 ? draw(100) : random.nextLong();
                int n = draw(15) == 0 ? from(-1, 42) : from(1, 10);
                same("years(" + n + ", " + seed + ")", desk.years(n, seed), model.years(n, seed));
                return 1;
            case 9:
                int script = from(-1, draw(3) == 0 ? 4 : 1);
                same("run(" + script + ", 0)", desk.run(script, 0), model.run(script, 0));
                same("run(" + script + ", 1)", desk.run(script, 1), model.run(script, 1));
                same("perform(" + script + ")", desk.perform(script), model.perform(script));
                return 3;
            default:
                int ticks = profile == 3 && draw(8) > 0 ? 60 : draw(15) == 0 ? from(-1, 62) : from(1, draw(3) == 0 ? 20 : 3);
                same("tick(" + ticks + ")", desk.tick(ticks), model.tick(ticks));
                return 1;
        }
    }

    private int askCall() {
        int c = from(draw(10) == 0 ? -1 : 0, draw(10) == 0 ? 3 : 2);
        int low = from(draw(10) == 0 ? -1 : 0, draw(10) == 0 ? 5 : 2);
        int high = low + from(draw(10) == 0 ? -1 : 0, 2);
        int calls = draw(10) == 0 ? 0 : say(ASKERS[draw(ASKERS.length)] + (draw(25) == 0 ? " x" : ""));
        if (draw(4) == 0) {
            same("drop(" + c + ")", desk.drop(c), model.drop(c));
        } else {
            same("ask(" + c + ", " + low + ", " + high + ")", desk.ask(c, low, high), model.ask(c, low, high));
        }
        same("count(2)", desk.count(2), model.count(2));
        return calls + 2;
    }

    private int keepCall() {
        switch (draw(10)) {
            case 0:
                same("image()", desk.image(), model.image());
                return 1;
            case 1:
                same("back()", desk.back(), model.back());
                return 1;
            case 2:
                int often = from(10, 42);
                for (int i = 0; i < often; i++) {
                    same("undo()", desk.undo(), model.undo());
                }
                return often;
            case 3:
            case 4:
            case 5:
                same("undo()", desk.undo(), model.undo());
                return 1;
            default:
                int row = draw(4) == 0 ? from(-1, 61) : draw(5);
                int what = from(draw(10) == 0 ? -1 : 0, draw(10) == 0 ? 3 : 2);
                same("log(" + row + ", " + what + ")", desk.log(row, what), model.log(row, what));
                return 1;
        }
    }

    private int tellCall() {
        int what = from(-1, 11);
        int c = from(draw(15) == 0 ? -1 : 0, draw(15) == 0 ? 3 : 2);
        int i = from(-1, 6);
        switch (draw(10)) {
            case 0:
                same("rule(" + what + ")", desk.rule(what), model.rule(what));
                return 1;
            case 1:
            case 2:
                same("cluster(" + c + ", " + what + ")", clusterOf(desk, c, what), clusterOf(model, c, what));
                return 1;
            case 3:
                same("point(" + c + ", " + i + ", " + what / 5 + ")", desk.point(c, i, what / 5), model.point(c, i, what / 5));
                return 1;
            case 4:
                same("core(" + i + ", " + what / 2 + ")", desk.core(i, what / 2), model.core(i, what / 2));
                return 1;
            case 5:
                same("task(" + i + ", " + what + ")", desk.task(i, what), model.task(i, what));
                return 1;
            case 6:
                same("name(" + c + ", " + i + ", " + what + ")", desk.name(c, i, what), model.name(c, i, what));
                same("asked(" + i + ", " + what / 3 + ")", desk.asked(i, what / 3), model.asked(i, what / 3));
                return 2;
            case 7:
                same("status(" + i + ")", desk.status(i), model.status(i));
                same("count(" + what + ")", desk.count(what), model.count(what));
                return 2;
            case 8:
                int step = from(-1, 12);
                same("step(" + c + ", " + step + ", " + i + ")", desk.step(c, step, i), model.step(c, step, i));
                return 1;
            default:
                same("all(" + what + ")", desk.all(what), model.all(what));
                return 1;
        }
    }

    private static long clusterOf(SpeedDesk desk, int c, int what) {
        try {
            return desk.cluster(c, what);
        } catch (NoSuchElementException e) {
            return Long.MIN_VALUE;
        }
    }

    private static long clusterOf(Model model, int c, int what) {
        try {
            return model.cluster(c, what);
        } catch (NoSuchElementException e) {
            return Long.MIN_VALUE;
        }
    }

    private int planCall() {
        int what = from(draw(10) == 0 ? -1 : 0, draw(10) == 0 ? 2 : 1);
        int t = from(-1, 4);
        int c = from(draw(15) == 0 ? -1 : 0, 2);
        switch (draw(9)) {
            case 0:
                same("price()", desk.price(), model.price());
                return 1;
            case 1:
                same("best(" + what + ", " + t + ")", desk.best(what, t), model.best(what, t));
                return 1;
            case 2:
                same("greedy(" + what + ", " + t + ")", desk.greedy(what, t), model.greedy(what, t));
                return 1;
            case 3:
                same("moves()", desk.moves(), model.moves());
                return 1;
            case 4:
                int chance = from(-1, 101);
                same("odds(" + chance + ")", desk.odds(chance), model.odds(chance));
                return 1;
            case 5:
            case 6:
                int work = draw(10) == 0 ? from(-1, 10000) : from(1, 300);
                int n = from(0, draw(3) == 0 ? 100 : 20);
                int of = from(draw(10) == 0 ? -1 : 0, draw(10) == 0 ? 3 : 2);
                same("race(" + c + ", " + work + ", " + n + ", " + of + ")", desk.race(c, work, n, of), model.race(c, work, n, of));
                return 1;
            case 7:
                int ticks = from(-1, draw(3) == 0 ? 201 : 20);
                int fact = from(-1, 6);
                same("ahead(" + ticks + ", " + fact + ")", desk.ahead(ticks, fact), model.ahead(ticks, fact));
                return 1;
            default:
                int far = from(0, draw(3) == 0 ? 101 : 20);
                same("bound(" + c + ", " + far + ")", desk.bound(c, far), model.bound(c, far));
                return 1;
        }
    }
}
