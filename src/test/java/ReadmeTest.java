import java.io.IOException;
import java.net.URL;
import java.net.URLClassLoader;
import java.nio.file.Files;
import java.nio.file.Path;
import java.util.ArrayList;
import java.util.List;
import java.util.regex.Matcher;
import java.util.regex.Pattern;
import javax.tools.ToolProvider;

/** The examples of README.md, compiled in their order as one program, answer what stands behind them. */
public final class ReadmeTest {
    private static final Path PLACE = Path.of("build/ci/readme");
    private static final Pattern BLOCK = Pattern.compile("(?ms)^```java\n(.*?)^```$");
    private static final Pattern ANSWERED = Pattern.compile("(desk\\.\\w+\\(.*\\)); +// (-?\\d+): .+");
    private static final Checks CHECKS = new Checks();

    public static void main(String[] args) throws IOException, ReflectiveOperationException {
        List<String> calls = new ArrayList<>();
        List<Long> due = new ArrayList<>();
        Path source = writeProgram(Files.readString(Path.of("README.md")), calls, due);
        int refused = ToolProvider.getSystemJavaCompiler().run(null, null, null,
            "-cp", System.getProperty("java.class.path"), "-d", PLACE.toString(), source.toString());
        CHECKS.due("the compiler refuses the examples", refused, 0);
        if (refused == 0) {
            compare(answers(calls.size()), calls, due);
        }
        CHECKS.due("examples with an answer: some 30", calls.size() >= 30, true);
        CHECKS.close("ReadmeTest");
    }

    private static void compare(long[] answers, List<String> calls, List<Long> due) {
        for (int i = 0; i < calls.size(); i++) {
            CHECKS.due("README.md: " + calls.get(i), answers[i], due.get(i));
        }
    }

    private static long[] answers(int count) throws IOException, ReflectiveOperationException {
        try (URLClassLoader loader = new URLClassLoader(new URL[] {PLACE.toUri().toURL()}, ReadmeTest.class.getClassLoader())) {
            long[] answers = new long[count];
            loader.loadClass("Examples").getMethod("run", long[].class).invoke(null, (Object) answers);
            return answers;
        }
    }

    /** A block that begins with "static" stands beside the others, which make one method. */
    private static Path writeProgram(String readme, List<String> calls, List<Long> due) throws IOException {
        StringBuilder beside = new StringBuilder();
        StringBuilder run = new StringBuilder();
        Matcher block = BLOCK.matcher(readme);
        while (block.find()) {
            if (block.group(1).startsWith("static ")) {
                beside.append(block.group(1));
            } else {
                appendLines(run, block.group(1), calls, due);
            }
        }
        Files.createDirectories(PLACE);
        return Files.writeString(PLACE.resolve("Examples.java"),
            "public final class Examples {\n" + beside + "public static void run(long[] answers) {\n" + run + "}\n}\n");
    }

    private static void appendLines(StringBuilder run, String block, List<String> calls, List<Long> due) {
        for (String line : block.split("\n")) {
            Matcher answered = ANSWERED.matcher(line);
            if (answered.matches()) {
                run.append("answers[").append(calls.size()).append("] = ").append(answered.group(1)).append(";\n");
                calls.add(answered.group(1));
                due.add(Long.parseLong(answered.group(2)));
            } else {
                run.append(line).append('\n');
            }
        }
    }
}
