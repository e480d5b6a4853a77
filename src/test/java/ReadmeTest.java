import java.io.IOException;
import java.lang.reflect.Method;
import java.lang.reflect.Modifier;
import java.nio.charset.StandardCharsets;
import java.nio.file.Files;
import java.nio.file.Path;
import java.util.List;
import java.util.stream.Collectors;
import java.util.stream.Stream;

/** README.md: its example prints what stands there, and it names every call of the face and every test. */
public final class ReadmeTest {
    private static final String FENCE = "```";

    private ReadmeTest() {
    }

    public static void main(String[] args) throws IOException, InterruptedException {
        String readme = Files.readString(Path.of("README.md"));
        exampleRuns(readme);
        callsAreNamed(readme);
        testsAreNamed(readme);
        Check.end();
    }

    private static void exampleRuns(String readme) throws IOException, InterruptedException {
        Check.part("README's example");
        int start = readme.indexOf(FENCE + "java\n");
        String printed = runs(blockBehind(readme, "java", start));
        String due = blockBehind(readme, "text", start);
        Check.due("\n" + printed + "which README tells as\n" + due, printed.equals(due), true);
    }

    private static String blockBehind(String readme, String kind, int start) {
        String opening = FENCE + kind + "\n";
        int from = readme.indexOf(opening, Math.max(0, start)) + opening.length();
        return readme.substring(from, readme.indexOf(FENCE, from));
    }

    private static String runs(String program) throws IOException, InterruptedException {
        Path folder = Files.createTempDirectory("readme");
        Path source = folder.resolve("Example.java");
        Files.writeString(source, program);
        String java = Path.of(System.getProperty("java.home"), "bin", "java").toString();
        String classes = System.getProperty("java.class.path");
        Process run = new ProcessBuilder(List.of(java, "-cp", classes, source.toString())).redirectErrorStream(true).start();
        String printed = new String(run.getInputStream().readAllBytes(), StandardCharsets.UTF_8);
        Check.due("exit code", run.waitFor(), 0);
        Files.delete(source);
        Files.delete(folder);
        return printed;
    }

    private static void callsAreNamed(String readme) {
        Check.part("README's calls");
        for (Method method : BiscuitLess.class.getDeclaredMethods()) {
            if (Modifier.isPublic(method.getModifiers())) {
                // Told as `name(` with as many arguments as the call takes, at the beginning of a row.
                String arguments = Stream.generate(() -> "[a-z]+").limit(method.getParameterCount())
                    .collect(Collectors.joining(", "));
                boolean isTold = readme.lines().anyMatch(line ->
                    line.matches("\\| (`[a-z]+\\(\\)`, )?`" + method.getName() + "\\(" + arguments + "\\)`.*"));
                Check.due(method.getName() + " is told", isTold, true);
            }
        }
    }

    private static void testsAreNamed(String readme) throws IOException {
        Check.part("README's tests");
        try (Stream<Path> files = Files.list(Path.of("src/test/java"))) {
            for (Path file : files.toList()) {
                String name = file.getFileName().toString().replace(".java", "");
                if (name.endsWith("Test")) {
                    Check.due(name + " is told", readme.contains("`" + name + "`"), true);
                }
            }
        }
    }
}
