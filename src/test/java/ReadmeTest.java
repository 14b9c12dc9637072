import java.io.IOException;
import java.lang.reflect.Method;
import java.lang.reflect.Modifier;
import java.net.URL;
import java.net.URLClassLoader;
import java.nio.file.Files;
import java.nio.file.Path;
import java.util.ArrayList;
import java.util.List;
import java.util.regex.Matcher;
import java.util.regex.Pattern;
import java.util.stream.Stream;
import javax.tools.ToolProvider;

/** README.md's example of use compiles and answers as it says; it leaves out no call and no test. */
public final class ReadmeTest {
    private static final Check CHECK = new Check();
    private static final Path README = Path.of("README.md");
    private static final Pattern BLOCK = Pattern.compile("(?ms)^```java$\n(.*?)^```$");
    private static final Pattern ANSWERED = Pattern.compile("(x\\.\\w+\\(.*\\));\\s+// (-?\\d+|[A-Z]+)(:.*|)");

    private final List<String> calls = new ArrayList<>();
    private final List<Long> dues = new ArrayList<>();
    private final StringBuilder code = new StringBuilder();

    public static void main(String[] args) throws IOException, ReflectiveOperationException {
        String readme = Files.readString(README);
        ReadmeTest test = new ReadmeTest();
        Matcher block = BLOCK.matcher(readme);
        while (block.find()) {
            test.read(block.group(1));
        }
        test.compareAnswers();
        test.leavesOutNoCall();
        namesEveryTest(readme);
        CHECK.end();
    }

    /** A call at a line's beginning must say what it answers; what stands further in prepares. */
    private void read(String block) throws ReflectiveOperationException {
        for (String line : block.lines().toList()) {
            Matcher m = ANSWERED.matcher(line);
            if (!m.matches()) {
                CHECK.due("README.md tells an answer: " + line, line.startsWith("x.") ? 0 : 1, 1);
                code.append(line).append('\n');
                continue;
            }
            calls.add(m.group(1));
            dues.add(numberOf(m.group(2)));
            code.append("answers.add((long) ").append(m.group(1)).append(");\n");
        }
    }

    private static long numberOf(String word) throws ReflectiveOperationException {
        return word.matches("[A-Z]+") ? PaceBorder.class.getField(word).getInt(null) : Long.parseLong(word);
    }

    private void compareAnswers() throws IOException, ReflectiveOperationException {
        List<?> answers = carryOut();
        CHECK.due("README.md: calls with an answer", answers.size(), calls.size());
        for (int i = 0; i < answers.size(); i++) {
            CHECK.due("README.md: " + calls.get(i), (Long) answers.get(i), dues.get(i));
        }
    }

    private List<?> carryOut() throws IOException, ReflectiveOperationException {
        Path folder = Files.createTempDirectory("readme");
        Path source = folder.resolve("ReadmeExample.java");
        Path made = folder.resolve("ReadmeExample.class");
        try {
            Files.writeString(source, "public final class ReadmeExample {\n"
                + "public static java.util.List<Long> answers() {\n"
                + "java.util.List<Long> answers = new java.util.ArrayList<>();\n" + code + "return answers;\n}\n}\n");
            int failed = ToolProvider.getSystemJavaCompiler().run(null, null, null,
                "-cp", System.getProperty("java.class.path"), "-d", folder.toString(), source.toString());
            CHECK.due("README.md: the example compiles", failed, 0);
            return failed == 0 ? answersOf(folder) : List.of();
        } finally {
            Files.deleteIfExists(source);
            Files.deleteIfExists(made);
            Files.deleteIfExists(folder);
        }
    }

    private static List<?> answersOf(Path folder) throws IOException, ReflectiveOperationException {
        try (URLClassLoader loader = new URLClassLoader(new URL[] {folder.toUri().toURL()})) {
            return (List<?>) loader.loadClass("ReadmeExample").getMethod("answers").invoke(null);
        }
    }

    private void leavesOutNoCall() {
        for (Method method : PaceBorder.class.getDeclaredMethods()) {
            if (Modifier.isPublic(method.getModifiers())) {
                String call = "x." + method.getName() + "(";
                long shown = calls.stream().filter(one -> one.startsWith(call)).count();
                CHECK.due("README.md shows " + call + "..)", shown > 0 ? 1 : 0, 1);
            }
        }
    }

    private static void namesEveryTest(String readme) throws IOException {
        try (Stream<Path> files = Files.list(Path.of("src/test/java"))) {
            for (Path file : files.filter(one -> one.toString().endsWith("Test.java")).toList()) {
                String name = file.getFileName().toString().replace(".java", "");
                CHECK.due("README.md names " + name, readme.contains("`" + name + "`") ? 1 : 0, 1);
            }
        }
    }
}
