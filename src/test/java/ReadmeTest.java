import java.io.IOException;
import java.lang.reflect.Method;
import java.lang.reflect.Modifier;
import java.nio.file.Files;
import java.nio.file.Path;
import java.util.ArrayList;
import java.util.List;
import java.util.regex.Matcher;
import java.util.regex.Pattern;
import java.util.stream.Stream;

/** The run of calls in README.md is the run below, answer by answer; run from the project's folder. */
public final class ReadmeTest {
    private static final Path README = Path.of("README.md");
    private static final Path TESTS = Path.of("src/test/java");
    private static final Pattern CALL = Pattern.compile("(x\\.\\w+\\(.*\\)); +// (-?[\\w.]+)\\b.*");

    private static final Check check = new Check("ReadmeTest");

    public static void main(String[] args) throws IOException {
        run();
        List<String> readme = Files.readAllLines(README);
        List<String> here = Files.readAllLines(TESTS.resolve("ReadmeTest.java"));
        sameRun(asTest(between(readme, "```java", "```")), between(here, "    private static void run() {", "    }"));
        namesTheFace(readme);
        namesTheTests(readme);
        check.end();
    }

    private static void run() {
        ThawPoints x = new ThawPoints();
        due("x.make(5, 10, 0)", x.make(5, 10, 0), 0);
        due("x.make(-3, -20, 0)", x.make(-3, -20, 0), 1);
        due("x.reads(0, 500)", x.reads(0, 500), 10510);
        due("x.measure(0, 0)", x.measure(0, 0), 1);
        due("x.thermometer(0, 7)", x.thermometer(0, 7), 3);
        refuses(x, "x.paper(0)", IllegalStateException.class, () -> x.paper(0));
        due("x.measure(0, 1)", x.measure(0, 1), 2);
        due("x.corrected(0, 510, 0)", x.corrected(0, 510, 0), 10000500);
        due("x.corrected(0, 510, 1)", x.corrected(0, 510, 1), 10000500);
        due("x.paper(0)", x.paper(0), 1);
        due("x.voidIn(0)", x.voidIn(0), 1);
        due("x.overlap(0, 1, 500)", x.overlap(0, 1, 500), -1);
        refuses(x, "x.measure(2, 0)", IndexOutOfBoundsException.class, () -> x.measure(2, 0));
        refuses(x, "x.pass(21)", IllegalArgumentException.class, () -> x.pass(21));
        due("x.keep()", x.keep(), 0);
        for (char sign : "c1:0;c1:1;p1;y1;p5".toCharArray()) {
            x.append(sign);
        }
        due("x.firstError()", x.firstError(), 18);
        due("x.work()", x.work(), 4);
        due("x.stopped(0)", x.stopped(0), 4);
        due("x.stopped(1)", x.stopped(1), 7);
        due("x.count(0)", x.count(0), 1);
        due("x.overlap(0, 1, 500)", x.overlap(0, 1, 500), 1);
        dueShare("x.validShare()", x.validShare(), 0.0);
        due("x.undo()", x.undo(), 5);
        dueShare("x.validShare()", x.validShare(), 0.5);
        due("x.bath(2, 600)", x.bath(2, 600), 10370);
        due("x.restore()", x.restore(), 0);
        due("x.count(8)", x.count(8), 10370);
    }

    private static void due(String call, long got, long want) {
        check.due(call, got, want);
    }

    private static void dueShare(String call, double got, double want) {
        check.dueShare(call, got, want);
    }

    private static void refuses(ThawPoints x, String call, Class<? extends RuntimeException> want, Check.Call refused) {
        check.refuses(x, call, want, refused);
    }

    /** The lines behind the first one that is the head, up to the next one that is the foot. */
    private static List<String> between(List<String> lines, String head, String foot) {
        int start = lines.indexOf(head) + 1;
        int length = lines.subList(start, lines.size()).indexOf(foot);
        check.due("lines behind " + head, start > 0 && length > 0 ? 1 : 0, 1);
        return length < 0 ? List.of() : lines.subList(start, start + length);
    }

    /** The lines of README.md as they stand in run(): a call with its answer is one that is due. */
    private static List<String> asTest(List<String> lines) {
        List<String> made = new ArrayList<>();
        for (String line : lines) {
            Matcher told = CALL.matcher(line);
            made.add(told.matches() ? asDue(told.group(1), told.group(2)) : line);
        }
        return made;
    }

    private static String asDue(String call, String answer) {
        if (answer.endsWith("Exception")) {
            return "refuses(x, \"" + call + "\", " + answer + ".class, () -> " + call + ");";
        }
        return (answer.contains(".") ? "dueShare" : "due") + "(\"" + call + "\", " + call + ", " + answer + ");";
    }

    private static void sameRun(List<String> readme, List<String> run) {
        for (int line = 0; line < Math.max(readme.size(), run.size()); line++) {
            String told = line < readme.size() ? readme.get(line).strip() : "nothing more";
            String held = line < run.size() ? run.get(line).strip() : "nothing more";
            check.due("the run's line " + (line + 1) + " is " + held + ", README.md tells " + told + ", the same",
                    told.equals(held) ? 1 : 0, 1);
            if (!told.equals(held)) {
                return; // the lines behind it would differ only because of this one
            }
        }
    }

    private static void namesTheFace(List<String> readme) {
        String text = String.join("\n", readme);
        for (Method method : ThawPoints.class.getDeclaredMethods()) {
            if (Modifier.isPublic(method.getModifiers())) {
                check.due("README.md names " + method.getName(), text.contains("`" + method.getName()) ? 1 : 0, 1);
            }
        }
        check.due("README.md tells of 512 calls", text.contains("at most 512 calls") ? 1 : 0, 1);
    }

    private static void namesTheTests(List<String> readme) throws IOException {
        String text = String.join("\n", readme);
        try (Stream<Path> files = Files.list(TESTS)) {
            for (Path file : files.toList()) {
                String name = file.getFileName().toString().replace(".java", "");
                check.due("README.md names " + name, text.contains("`" + name + "`") ? 1 : 0, 1);
            }
        }
    }
}
