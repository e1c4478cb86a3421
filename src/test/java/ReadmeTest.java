import java.io.IOException;
import java.lang.reflect.Method;
import java.lang.reflect.Modifier;
import java.net.URL;
import java.net.URLClassLoader;
import java.nio.file.Files;
import java.nio.file.Path;
import java.util.ArrayList;
import java.util.List;
import java.util.Set;
import java.util.TreeSet;
import java.util.regex.Matcher;
import java.util.regex.Pattern;
import java.util.stream.Stream;
import javax.tools.ToolProvider;

/**
 * README.md: the calls that it shows are made, as the one program that they are, and each answer is
 * compared with the one that it says; and the tests that it names are those that there are.
 */
final class ReadmeTest {
    private static final Path README = Path.of("README.md");
    private static final Path TESTS = Path.of("src/test/java");
    private static final Pattern BLOCK = Pattern.compile("(?s)```java\n(.*?)```");
    private static final Pattern CALL = Pattern.compile(
            "(x\\.(\\w+)\\(.*\\));\\s+// (-?\\d+|true|false)(?:: .*)?");

    private final List<String> calls = new ArrayList<>();
    private final List<String> due = new ArrayList<>();
    private final Set<String> called = new TreeSet<>();
    private final StringBuilder members = new StringBuilder();
    private final StringBuilder statements = new StringBuilder();

    private ReadmeTest() {
    }

    public static void main(String[] args) throws Exception {
        String text = Files.readString(README);
        ReadmeTest test = new ReadmeTest();
        Matcher block = BLOCK.matcher(text);
        while (block.find()) {
            test.take(block.group(1));
        }
        test.compareAnswers();
        test.allOfTheFaceIsShown();
        testsAreNamed(text);
        Check.end();
    }

    /** A block is either methods that help, or calls, each with its answer. */
    private void take(String block) {
        if (block.contains("static ")) {
            members.append(block);
            return;
        }
        for (String line : block.split("\n")) {
            Matcher call = CALL.matcher(line);
            if (call.matches()) {
                calls.add(call.group(1));
                called.add(call.group(2));
                due.add(call.group(3));
                statements.append("answers.add(String.valueOf(").append(call.group(1))
                        .append("));\n");
            } else {
                Check.due("a call without its answer: " + line, line.startsWith("x."), false);
                statements.append(line).append('\n');
            }
        }
    }

    private void compareAnswers() throws Exception {
        List<String> answers = answers();
        Check.due("calls", answers.size(), calls.size());
        for (int i = 0; i < answers.size(); i++) {
            Check.due(calls.get(i), number(answers.get(i)), number(due.get(i)));
        }
    }

    private static long number(String answer) {
        boolean isTrue = answer.equals("true");
        return isTrue || answer.equals("false") ? (isTrue ? 1 : 0) : Long.parseLong(answer);
    }

    /** What the calls answer, by the compiler: they must be Java as they stand. */
    private List<String> answers() throws Exception {
        Path folder = Files.createTempDirectory("readme");
        try {
            Path source = folder.resolve("ReadmeCalls.java");
            Files.writeString(source, "public final class ReadmeCalls {\n" + members
                    + "public static java.util.List<String> answers() {\n"
                    + "java.util.List<String> answers = new java.util.ArrayList<>();\n"
                    + statements + "return answers;\n}\n}\n");
            int status = ToolProvider.getSystemJavaCompiler().run(null, null, null, "-nowarn",
                    "-cp", System.getProperty("java.class.path"), "-d", folder.toString(),
                    source.toString());
            Check.due("README.md's calls compile", status, 0);
            return status == 0 ? run(folder) : List.of();
        } finally {
            delete(folder);
        }
    }

    private static List<String> run(Path folder) throws Exception {
        URL[] places = {folder.toUri().toURL()};
        ClassLoader own = ReadmeTest.class.getClassLoader();
        try (URLClassLoader loader = new URLClassLoader(places, own)) {
            Method answers = loader.loadClass("ReadmeCalls").getMethod("answers");
            List<String> all = new ArrayList<>();
            for (Object answer : (List<?>) answers.invoke(null)) {
                all.add((String) answer);
            }
            return all;
        }
    }

    private static void delete(Path folder) throws IOException {
        try (Stream<Path> files = Files.list(folder)) {
            for (Path file : files.toList()) {
                Files.delete(file);
            }
        }
        Files.delete(folder);
    }

    private void allOfTheFaceIsShown() {
        for (Method method : WaterReview.class.getDeclaredMethods()) {
            if (Modifier.isPublic(method.getModifiers())) {
                Check.due("README.md shows " + method.getName(),
                        called.contains(method.getName()) || members.indexOf("x."
                        + method.getName() + "(") >= 0, true);
            }
        }
    }

    private static void testsAreNamed(String text) throws IOException {
        Set<String> there = new TreeSet<>();
        try (Stream<Path> files = Files.list(TESTS)) {
            files.map(file -> file.getFileName().toString()).filter(f -> f.endsWith("Test.java"))
                    .forEach(f -> there.add(f.replace(".java", "")));
        }
        Set<String> named = new TreeSet<>();
        Matcher row = Pattern.compile("(?m)^\\| `(\\w+)` \\|").matcher(text);
        while (row.find()) {
            named.add(row.group(1));
        }
        for (String test : there) {
            Check.due("README.md tells what " + test + " tests", named.contains(test), true);
        }
        for (String test : named) {
            Check.due(test + " is there", there.contains(test), true);
        }
    }
}
