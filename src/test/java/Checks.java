import java.io.IOException;
import java.nio.file.Files;
import java.nio.file.Path;
import java.util.NoSuchElementException;

/** What the tests share: counts wrong answers and feeds texts. */
final class Checks {
    private static final Path DOCUMENT = Path.of("../shared/DOC.md");
    private int wrong;
    private int made;
    private String sentence = "";

    /** The sentence of the document by which the answers from here on are due. */
    void says(String quoted) {
        sentence = "\"" + quoted + "\": ";
        // a notice only: the tests hold the program, not the document's wording
        if (!document().contains(quoted)) {
            System.out.println("the document has no words " + sentence);
        }
    }

    private static String document() {
        try {
            return Files.readString(DOCUMENT);
        } catch (IOException e) {
            return "";
        }
    }

    void due(String call, long got, long want) {
        made++;
        if (got != want) {
            wrong++;
            System.out.println(sentence + call + " answered " + got + ", due is " + want);
        }
    }

    void due(String call, boolean got, boolean want) {
        due(call, got ? 1 : 0, want ? 1 : 0);
    }

    /** A row of answers, each named by its place. */
    void row(String calls, int[] got, int... want) {
        due(calls + ": how many", got.length, want.length);
        for (int i = 0; i < got.length && i < want.length; i++) {
            due(calls + " [" + i + "]", got[i], want[i]);
        }
    }

    void clusterThrows(SpeedDesk desk, int cluster, int what) {
        boolean thrown = false;
        try {
            desk.cluster(cluster, what);
        } catch (NoSuchElementException e) {
            thrown = true;
        }
        due("cluster(" + cluster + ", " + what + ") throws NoSuchElementException", thrown, true);
    }

    /** Ends the test. */
    void close(String test) {
        System.out.println(test + ": " + made + " answers, " + wrong + " wrong");
        if (wrong != 0) {
            System.exit(1);
        }
    }

    /** The tape has this text alone then. */
    static SpeedDesk tape(SpeedDesk desk, String text) {
        desk.end(0);
        return feed(desk, text);
    }

    static SpeedDesk feed(SpeedDesk desk, String text) {
        for (int i = 0; i < text.length(); i += 20) {
            int[] five = new int[5];
            for (int j = 0; j < 20 && i + j < text.length(); j++) {
                five[j / 4] |= (text.charAt(i + j) & 255) << (24 - 8 * (j % 4));
            }
            desk.feed(five[0], five[1], five[2], five[3], five[4]);
        }
        return desk;
    }

    /** A new object with this chip. */
    static SpeedDesk chip(String text) {
        SpeedDesk desk = new SpeedDesk();
        int clusters = tape(desk, text).text(0);
        if (clusters < 1) {
            throw new IllegalStateException("no chip: " + text + ", fault " + desk.fault(0));
        }
        return desk;
    }

    /** One more script; its number. */
    static int script(SpeedDesk desk, String text) {
        return tape(desk, text).text(1);
    }

    static int ask(SpeedDesk desk, String asker, int cluster, int low, int high) {
        return tape(desk, asker).ask(cluster, low, high);
    }

    static int drop(SpeedDesk desk, String asker, int cluster) {
        return tape(desk, asker).drop(cluster);
    }

    static String repeated(String text, int times) {
        return text.repeat(times);
    }
}
