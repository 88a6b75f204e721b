import java.io.IOException;
import java.nio.file.Files;
import java.nio.file.Path;
import java.util.Comparator;
import java.util.List;
import java.util.concurrent.TimeUnit;
import java.util.stream.Stream;

/** .ci/run itself, on a small project of one class with tests of one line: what it says and how it ends. */
public final class RunTest {
    private static final String PASSES = "new HarpPedals();";
    private static final String FAILS = "System.exit(1);";
    private static final String THROWS = "throw new IllegalStateException();";
    private static final String NO_JAVA = "new HarpPedals().nothing();";
    private static final String SHARES = "Shared.use();";
    private static int wrong = 0;
    private static int asked = 0;

    public static void main(String[] args) throws Exception {
        due("all tests pass", List.of("own", PASSES, "shared", PASSES), 0, "2 passed, 0 failed");
        due("an own test fails", List.of("own", FAILS, "shared", PASSES), 1, "1 passed, 1 failed");
        due("a shared test fails", List.of("own", PASSES, "shared", FAILS), 1, "1 passed, 1 failed");
        due("a test throws", List.of("own", THROWS, "shared", PASSES), 1, "1 passed, 1 failed");
        due("a test does not compile", List.of("own", PASSES, "shared", NO_JAVA), 1, "1 passed, 1 failed");
        due("it goes on behind one that fails", List.of("own", FAILS, "own", PASSES, "shared", PASSES), 1, "2 passed, 1 failed");
        due("there is no shared test", List.of("own", PASSES), 1, "1 passed, 1 failed");
        due("there is no test at all", List.of(), 1, "0 passed, 1 failed");
        due("what tests share is found and is no test", List.of("own", SHARES, "shared", PASSES), 0, "2 passed, 0 failed");
        System.out.println(asked + " answers, " + wrong + " wrong");
        if (wrong != 0) {
            System.exit(1);
        }
    }

    private static void due(String what, List<String> tests, int wantedCode, String wantedLine) throws Exception {
        Path room = Files.createTempDirectory("run");
        try {
            Path project = projectOf(room, tests);
            Path said = room.resolve("said");
            // from another directory, as README.md says
            Process run = new ProcessBuilder("sh", project.resolve(".ci/run").toString()).directory(room.toFile())
                .redirectErrorStream(true).redirectOutput(said.toFile()).start();
            boolean ended = run.waitFor(5, TimeUnit.MINUTES);
            List<String> lines = Files.readAllLines(said);
            String line = lines.isEmpty() ? "nothing" : lines.get(lines.size() - 1);
            asked++;
            if (!ended || run.exitValue() != wantedCode || !line.equals(wantedLine)) {
                wrong++;
                System.out.println(".ci/run, if " + what + ": " + lines + ", due is at its end: " + wantedLine + ", code " + wantedCode);
            }
        } finally {
            delete(room);
        }
    }

    private static Path projectOf(Path room, List<String> tests) throws IOException {
        Path project = room.resolve("project");
        write(project.resolve("src/main/java/HarpPedals.java"), "public final class HarpPedals { }");
        write(project.resolve("src/test/support/Shared.java"), "final class Shared { static void use() { } }");
        for (int i = 0; i < tests.size(); i += 2) {
            Path under = tests.get(i).equals("own") ? project.resolve("src/test/java") : room.resolve("shared/tests");
            String name = "T" + i;
            write(under.resolve(name + ".java"), "public final class " + name + " { public static void main(String[] a) { "
                + tests.get(i + 1) + " } }");
        }
        write(project.resolve(".ci/run"), Files.readString(Path.of(".ci/run")));
        return project;
    }

    private static void write(Path file, String text) throws IOException {
        Files.createDirectories(file.getParent());
        Files.writeString(file, text);
    }

    private static void delete(Path room) throws IOException {
        try (Stream<Path> all = Files.walk(room)) {
            for (Path path : all.sorted(Comparator.reverseOrder()).toList()) {
                Files.delete(path);
            }
        }
    }
}
