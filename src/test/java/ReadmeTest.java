import java.io.File;
import java.io.IOException;
import java.lang.reflect.Method;
import java.lang.reflect.Modifier;
import java.net.URL;
import java.net.URLClassLoader;
import java.nio.file.Files;
import java.nio.file.Path;
import java.util.ArrayList;
import java.util.List;
import java.util.TreeSet;
import java.util.regex.Matcher;
import java.util.regex.Pattern;

/** README.md says what is so: its examples are compiled and run, and what it tells of the tests is held beside .ci/run. */
public final class ReadmeTest {
    private static final Path README = Path.of("README.md");
    private static final Path SCRIPT = Path.of(".ci/run");
    private static final Path TESTS = Path.of("src/test/java");
    private static final Pattern ASKED =
        Pattern.compile("(?:(int|long) (\\w+) = )?(.*);\\s+// (-?\\d+|NONE|UNKNOWN|OUTSIDE|STATE|FULL)(?:: .*)?");
    private static final Pattern CALLED = Pattern.compile("\\bclub\\.(\\w+)\\(");

    private static int wrong = 0;
    private static int asked = 0;

    public static void due(int line, String call, long got, long want) {
        asked++;
        if (got != want) {
            wrong++;
            System.out.println("README.md, line " + line + ": " + call + " answered " + got + ", README.md says " + want);
        }
    }

    private static void must(boolean holds, String what) {
        if (!holds) {
            wrong++;
            System.out.println("does not hold: " + what);
        }
    }

    // ---- the examples

    /** The examples as a class: what begins with "static" as its methods, all else as one run, each answer held beside the one told. */
    private static String toProgram(List<String> readme) {
        StringBuilder methods = new StringBuilder();
        StringBuilder run = new StringBuilder();
        boolean isCode = false;
        boolean isMethod = false;
        for (int i = 0; i < readme.size(); i++) {
            String line = readme.get(i);
            if (line.startsWith("```")) {
                isCode = line.equals("```java");
                isMethod = isCode && i + 1 < readme.size() && readme.get(i + 1).startsWith("static ");
            } else if (isCode) {
                (isMethod ? methods : run).append(isMethod ? line : toQuestion(i + 1, line)).append('\n');
            }
        }
        return "public final class Example {\n" + methods + "public static void run() {\n" + run + "}\n}\n";
    }

    private static String toQuestion(int number, String line) {
        Matcher m = ASKED.matcher(line);
        if (!m.matches()) {
            must(line.equals("BlackBalls club = new BlackBalls();"), "README.md, line " + number + " tells an answer: " + line);
            return line;
        }
        String call = m.group(3);
        String want = Character.isLetter(m.group(4).charAt(0)) ? "BlackBalls." + m.group(4) : m.group(4) + "L";
        String told = number + ", \"" + call.replace("\"", "\\\"") + "\", ";
        if (m.group(2) == null) {
            return "ReadmeTest.due(" + told + call + ", " + want + ");";
        }
        return m.group(1) + " " + m.group(2) + " = " + call + "; ReadmeTest.due(" + told + m.group(2) + ", " + want + ");";
    }

    private static void runExamples(String program) throws Exception {
        Path dir = Files.createTempDirectory("readme");
        Path source = dir.resolve("Example.java");
        Files.writeString(source, program);
        int failed = new ProcessBuilder("javac", "--release", "17", "-cp", System.getProperty("java.class.path"),
            "-d", dir.toString(), source.toString()).inheritIO().start().waitFor();
        must(failed == 0, "the examples of README.md compile");
        if (failed == 0) {
            try (URLClassLoader loader = new URLClassLoader(new URL[] {dir.toUri().toURL()}, ReadmeTest.class.getClassLoader())) {
                loader.loadClass("Example").getMethod("run").invoke(null);
            }
        }
        for (File file : dir.toFile().listFiles()) {
            file.delete();
        }
        dir.toFile().delete();
    }

    private static void eachCallIsShown(String program) {
        TreeSet<String> shown = new TreeSet<>();
        Matcher m = CALLED.matcher(program);
        while (m.find()) {
            shown.add(m.group(1));
        }
        for (Method method : BlackBalls.class.getDeclaredMethods()) {
            if (Modifier.isPublic(method.getModifiers())) {
                must(shown.contains(method.getName()), "README.md shows " + method.getName());
            }
        }
    }

    private static void constants(String readme) {
        String[] names = {"NONE", "UNKNOWN", "OUTSIDE", "STATE", "FULL"};
        int[] values = {BlackBalls.NONE, BlackBalls.UNKNOWN, BlackBalls.OUTSIDE, BlackBalls.STATE, BlackBalls.FULL};
        for (int i = 0; i < names.length; i++) {
            must(readme.contains("`" + names[i] + "` (" + values[i] + ")"), "README.md tells what " + names[i] + " is");
        }
    }

    // ---- the tests

    private static void testsAreNamed(String readme) {
        TreeSet<String> named = new TreeSet<>();
        Matcher m = Pattern.compile("`(\\w+Test)`").matcher(readme);
        while (m.find()) {
            named.add(m.group(1));
        }
        TreeSet<String> there = new TreeSet<>();
        for (File file : TESTS.toFile().listFiles()) {
            there.add(file.getName().replace(".java", ""));
        }
        must(named.equals(there), "README.md names " + named + ", under " + TESTS + " are " + there);
    }

    /** The lines of .ci/run that compile and run a test, in README.md's words for what is another in each run. */
    private static void linesAreThoseOfTheScript(List<String> readme) throws IOException {
        List<String> script = new ArrayList<>();
        for (String line : Files.readAllLines(SCRIPT)) {
            String bare = line.strip();
            if (bare.startsWith("javac ") || bare.startsWith("java ")) {
                script.add(bare.replace(" || return 1", "").replace("\"$out\"", "DIR").replace("\"$main\"", "src/main/java/BlackBalls.java")
                    .replace("\"$1\"", "T.java").replace("\"$name\"", "T"));
            }
        }
        List<String> told = new ArrayList<>();
        for (String line : readme) {
            if (line.startsWith("    javac ") || line.startsWith("    java ")) {
                told.add(line.strip());
            }
        }
        must(script.size() == 2 && told.equals(script), "README.md tells the lines " + told + ", .ci/run has " + script);
        must(Files.isExecutable(SCRIPT) && readme.contains("    .ci/run"), "README.md tells .ci/run, and it can be run");
    }

    public static void main(String[] args) throws Exception {
        List<String> lines = Files.readAllLines(README);
        String readme = String.join("\n", lines);
        String program = toProgram(lines);
        runExamples(program);
        must(asked > 0, "README.md has examples");
        eachCallIsShown(program);
        constants(readme);
        testsAreNamed(readme);
        linesAreThoseOfTheScript(lines);
        System.out.println(wrong == 0 ? asked + " answers are as README.md says" : wrong + " things are not as README.md says");
        if (wrong != 0) {
            System.exit(1);
        }
    }
}
