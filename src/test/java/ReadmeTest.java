import java.io.IOException;
import java.net.URL;
import java.net.URLClassLoader;
import java.nio.file.Files;
import java.nio.file.Path;
import java.util.ArrayList;
import java.util.List;
import java.util.Set;
import java.util.TreeSet;
import java.util.regex.Matcher;
import java.util.regex.Pattern;
import java.util.stream.Stream;
import javax.tools.ToolProvider;

/** What README.md says: its example compiles and answers so, and the tests that it names are those that there are. */
public final class ReadmeTest {
    /** A call, kept under a name perhaps, and behind it what it answers. */
    private static final Pattern CALL = Pattern.compile("(int \\w+ = )?(x\\.\\w+\\([^;]*\\)); *// (-?\\d+)(: .*)?");
    private static final Pattern TEST = Pattern.compile("`(\\w+Test)`");
    private static final String FIRST_LINE = "JudgesLists x = new JudgesLists();";
    private static final Checks checks = new Checks("ReadmeTest");

    public static void main(String[] args) throws Exception {
        String readme = Files.readString(Path.of(System.getProperty("readme", "README.md")));
        example(blockOf(readme, "java"));
        checks.due("README.md tells to run .ci/run", blockOf(readme, "sh").compareTo(".ci/run\n"), 0);
        testsThatAreNamed(readme);
        checks.end();
    }

    private static String blockOf(String readme, String kind) {
        Matcher block = Pattern.compile("(?s)```" + kind + "\n(.*?)```").matcher(readme);
        return block.find() ? block.group(1) : "";
    }

    private static void example(String block) throws Exception {
        checks.holds("the example begins with a new object", block.startsWith(FIRST_LINE + "\n"));
        StringBuilder code = new StringBuilder();
        List<Matcher> calls = new ArrayList<>();
        for (String line : block.replace(FIRST_LINE, "").split("\n+")) {
            Matcher call = CALL.matcher(line);
            if (call.matches()) {
                calls.add(call);
                String name = call.group(1) == null ? "" : call.group(1);
                code.append(name).append("kept(").append(call.group(2)).append(");\n");
            } else {
                checks.holds("the example tells what this answers: " + line, line.isBlank());
            }
        }
        checks.holds("the example has calls", !calls.isEmpty());
        List<?> answers = answersOf(code);
        checks.due("how many calls of the example answer", answers.size(), calls.size());
        for (int i = 0; i < answers.size(); i++) {
            Matcher call = calls.get(i);
            checks.due(call.group(2), (Integer) answers.get(i), Integer.parseInt(call.group(3)));
        }
    }

    /** The example as a class of its own, compiled together with JudgesLists. */
    private static List<?> answersOf(CharSequence code) throws Exception {
        Path folder = Files.createTempDirectory("readme");
        try {
            Path file = folder.resolve("Example.java");
            Files.writeString(file, """
                public final class Example implements java.util.function.Supplier<java.util.List<Integer>> {
                    private final java.util.List<Integer> answers = new java.util.ArrayList<>();
                    private int kept(int answer) { answers.add(answer); return answer; }
                    public java.util.List<Integer> get() {
                %s
                %s
                return answers; } }
                """.formatted(FIRST_LINE, code));
            String classPath = System.getProperty("java.class.path");
            int failed = ToolProvider.getSystemJavaCompiler().run(null, null, null,
                "--release", "17", "-cp", classPath, "-d", folder.toString(), file.toString());
            checks.due("javac of the example", failed, 0);
            return failed == 0 ? answersIn(folder) : List.of();
        } finally {
            emptyAndDelete(folder);
        }
    }

    private static List<?> answersIn(Path folder) throws Exception {
        try (URLClassLoader loader = new URLClassLoader(new URL[] {folder.toUri().toURL()})) {
            Object example = loader.loadClass("Example").getConstructor().newInstance();
            return (List<?>) ((java.util.function.Supplier<?>) example).get();
        }
    }

    private static void emptyAndDelete(Path folder) throws IOException {
        try (Stream<Path> files = Files.list(folder)) {
            for (Path file : files.toList()) {
                Files.delete(file);
            }
        }
        Files.delete(folder);
    }

    private static void testsThatAreNamed(String readme) throws IOException {
        Set<String> named = new TreeSet<>();
        TEST.matcher(readme).results().forEach(test -> named.add(test.group(1)));
        Set<String> there = new TreeSet<>();
        try (Stream<Path> files = Files.list(Path.of("src/test/java"))) {
            files.map(file -> file.getFileName().toString()).filter(name -> name.endsWith("Test.java"))
                .forEach(name -> there.add(name.replace(".java", "")));
        }
        checks.holds("README.md names " + named + ", there are " + there, named.equals(there));
    }
}
