import java.io.File;
import java.io.StringWriter;
import java.lang.reflect.Method;
import java.lang.reflect.Modifier;
import java.net.URL;
import java.net.URLClassLoader;
import java.nio.file.Files;
import java.nio.file.Path;
import java.util.List;
import java.util.Set;
import java.util.TreeSet;
import java.util.regex.Matcher;
import java.util.regex.Pattern;
import java.util.stream.Stream;
import javax.tools.JavaCompiler;
import javax.tools.JavaFileObject;
import javax.tools.StandardJavaFileManager;
import javax.tools.ToolProvider;

/** README.md: its Java compiles and answers as it says there; the calls, classes, tests and files it names are there. */
public final class ReadmeTest {
    private static final Pattern ANSWERED =
        Pattern.compile("((?:harp|new HarpPedals\\(\\))\\.(\\w+)\\(.*\\));\\s*// (?:(-?\\d+)|([A-Z]+))(?:: .*)?");
    private static int wrong = 0;
    private static int asked = 0;

    /** Called by what is made of README.md, too. */
    public static void due(String what, long got, long want) {
        asked++;
        if (got != want) {
            wrong++;
            System.out.println("README.md: " + what + " answered " + got + ", it says " + want);
        }
    }

    private static void holds(String what, boolean so) {
        asked++;
        if (!so) {
            wrong++;
            System.out.println("README.md: not so: " + what);
        }
    }

    public static void main(String[] args) throws Exception {
        String readme = Files.readString(Path.of("README.md"));
        runItsJava(readme);
        allCallsAreShown(readme);
        allCallsAreTold(readme);
        theConstants(readme);
        theClasses(readme);
        theTests(readme);
        theFiles(readme);
        System.out.println(asked + " answers, " + wrong + " wrong");
        if (wrong != 0) {
            System.exit(1);
        }
    }

    /** All its Java, one piece behind the other. */
    private static String itsJava(String readme) {
        StringBuilder java = new StringBuilder();
        Matcher pieces = Pattern.compile("(?s)```java\n(.*?)```").matcher(readme);
        while (pieces.find()) {
            java.append(pieces.group(1));
        }
        return java.toString();
    }

    private static void runItsJava(String readme) throws Exception {
        StringBuilder body = new StringBuilder();
        for (String line : itsJava(readme).split("\n")) {
            body.append(asChecked(line)).append('\n');
        }
        Path made = Files.createTempDirectory("readme");
        try {
            Path source = made.resolve("Shown.java");
            Files.writeString(source, "public class Shown { public static void run() {\n" + body + "} }\n");
            if (compiled(source, made)) {
                try (URLClassLoader loader = new URLClassLoader(new URL[] {made.toUri().toURL()}, ReadmeTest.class.getClassLoader())) {
                    loader.loadClass("Shown").getMethod("run").invoke(null);
                }
            }
        } finally {
            for (File file : made.toFile().listFiles()) {
                file.delete();
            }
            made.toFile().delete();
        }
    }

    private static String asChecked(String line) {
        Matcher answered = ANSWERED.matcher(line);
        if (!answered.matches()) {
            // a call in a row of its own has to say what it answers
            holds("there is an answer behind " + line, !line.startsWith("harp.") && !line.startsWith("new "));
            return line;
        }
        String call = answered.group(1);
        String answer = answered.group(3) != null ? answered.group(3) + "L" : "HarpPedals." + answered.group(4);
        return "ReadmeTest.due(\"" + call.replace("\"", "\\\"") + "\", " + call + ", " + answer + ");";
    }

    private static boolean compiled(Path source, Path made) throws Exception {
        JavaCompiler compiler = ToolProvider.getSystemJavaCompiler();
        if (compiler == null) {
            holds("there is a compiler for its Java", false);
            return false;
        }
        StringWriter said = new StringWriter();
        boolean done;
        try (StandardJavaFileManager files = compiler.getStandardFileManager(null, null, null)) {
            Iterable<? extends JavaFileObject> sources = files.getJavaFileObjects(source.toFile());
            List<String> options = List.of("-d", made.toString(), "-cp", System.getProperty("java.class.path"));
            done = compiler.getTask(said, files, null, options, null, sources).call();
        }
        holds("its Java compiles: " + said, done);
        return done;
    }

    private static Set<String> face() {
        Set<String> names = new TreeSet<>();
        for (Method method : HarpPedals.class.getDeclaredMethods()) {
            if (Modifier.isPublic(method.getModifiers())) {
                names.add(method.getName());
            }
        }
        return names;
    }

    private static void allCallsAreShown(String readme) {
        Set<String> shown = new TreeSet<>();
        for (String line : itsJava(readme).split("\n")) {
            Matcher answered = ANSWERED.matcher(line);
            if (answered.matches()) {
                shown.add(answered.group(2));
            }
        }
        holds("all calls are shown with an answer: " + face() + ", not " + shown, shown.equals(face()));
    }

    /** The table of all calls has those of the document, in its order, with its names for what they take. */
    private static void allCallsAreTold(String readme) {
        StringBuilder due = new StringBuilder();
        Matcher calls = Pattern.compile("    public (?:int|long) (\\w+\\(.*\\));").matcher(Face.TEXT);
        while (calls.find()) {
            due.append(calls.group(1).replaceAll("(int|boolean) ", "")).append('\n');
        }
        StringBuilder told = new StringBuilder();
        Matcher rows = Pattern.compile("(?m)^\\| `(\\w+\\(.*?\\))` \\|").matcher(readme);
        while (rows.find()) {
            told.append(rows.group(1)).append('\n');
        }
        holds("the table has the document's calls:\n" + due + "not\n" + told, due.toString().equals(told.toString()) && due.length() > 0);
    }

    private static void theConstants(String readme) {
        String told = "`NONE` is " + HarpPedals.NONE + ", `UNKNOWN` " + HarpPedals.UNKNOWN + ", `OUTSIDE` " + HarpPedals.OUTSIDE
            + ", `STATE` " + HarpPedals.STATE + ", `FULL` " + HarpPedals.FULL;
        holds("it says: " + told, readme.contains(told));
    }

    private static void theClasses(String readme) {
        Set<String> inside = new TreeSet<>();
        for (Class<?> c : HarpPedals.class.getDeclaredClasses()) {
            inside.add(c.getSimpleName());
        }
        Set<String> told = new TreeSet<>();
        Matcher rows = Pattern.compile("(?m)^\\| (`[A-Z]\\w+`(?:, `[A-Z]\\w+`)*) \\|").matcher(readme);
        while (rows.find()) {
            told.addAll(List.of(rows.group(1).replace("`", "").split(", ")));
        }
        holds("the classes inside are " + inside + ", not " + told, inside.equals(told));
    }

    private static void theTests(String readme) throws Exception {
        Set<String> there = new TreeSet<>();
        try (Stream<Path> files = Files.list(Path.of("src/test/java"))) {
            files.forEach(file -> there.add(file.getFileName().toString().replace(".java", "")));
        }
        Set<String> told = new TreeSet<>();
        Matcher names = Pattern.compile("`(\\w+Test)`").matcher(readme);
        while (names.find()) {
            told.add(names.group(1));
        }
        holds("the tests are " + there + ", not " + told, there.equals(told));
        Matcher methods = Pattern.compile("`(promise\\d+_\\w+)`").matcher(readme);
        while (methods.find()) {
            holds("there is a test " + methods.group(1), Files.readString(Path.of("src/test/java/DoneEdgesTest.java")).contains(methods.group(1) + "()"));
        }
    }

    private static void theFiles(String readme) {
        Matcher names = Pattern.compile("(?:\\.\\./shared/tests|src/[\\w./]*\\w)|\\.ci/run").matcher(readme);
        while (names.find()) {
            holds("there is " + names.group(), Files.exists(Path.of(names.group())));
        }
        holds(".ci/run can be run", Files.isExecutable(Path.of(".ci/run")));
    }
}
