import java.io.IOException;
import java.lang.reflect.InvocationTargetException;
import java.lang.reflect.Method;
import java.net.URL;
import java.net.URLClassLoader;
import java.nio.file.DirectoryStream;
import java.nio.file.Files;
import java.nio.file.Path;
import java.util.ArrayList;
import java.util.List;
import java.util.regex.Matcher;
import java.util.regex.Pattern;
import javax.tools.ToolProvider;

/**
 * README.md keeps its word: its Java is compiled and run as one class, in which each call with an
 * answer behind it must answer just that; and it names each test and each STATUS.
 */
final class ReadmeTest {
    private static final Pattern BLOCK = Pattern.compile("(?s)```java\n(.*?)```");
    private static final Pattern CALL =
            Pattern.compile("((?:chart\\.|feed\\().*\\)); // (-?[0-9]+|true|false)(?::.*)?");

    private final Expect expect = new Expect();
    private final StringBuilder functions = new StringBuilder();
    private final StringBuilder calls = new StringBuilder();
    private int answers;

    public static void main(String[] args) throws IOException, ReflectiveOperationException {
        ReadmeTest t = new ReadmeTest();
        String page = Files.readString(Path.of("README.md"));
        t.readBlocks(page);
        t.runAll();
        t.namesEachTest(page);
        t.namesEachStatus(page);
        t.expect.end("ReadmeTest");
    }

    private void readBlocks(String page) {
        Matcher block = BLOCK.matcher(page);
        while (block.find()) {
            String code = block.group(1);
            if (code.startsWith("static ")) {
                functions.append(code);
            } else {
                code.lines().forEach(this::readLine);
            }
        }
        expect.holds("calls with answers were found", answers > 20);
    }

    private void readLine(String line) {
        Matcher call = CALL.matcher(line);
        if (call.matches()) {
            answers++;
            calls.append("due.add(\"").append(call.group(2)).append("\"); got.add(String.valueOf(")
                    .append(call.group(1)).append("));\n");
        } else {
            expect.fails("a call without an answer: " + line, line.startsWith("chart."));
            calls.append(line).append('\n');
        }
    }

    private void runAll() throws IOException, ReflectiveOperationException {
        Path folder = Files.createTempDirectory("readme");
        Path source = folder.resolve("ReadmeRun.java");
        Files.writeString(source, "public final class ReadmeRun {\n" + functions
                + "public static void run(java.util.List<String> due, java.util.List<String> got) {\n"
                + calls + "}\n}\n");
        int outcome = ToolProvider.getSystemJavaCompiler().run(null, null, null, "-cp",
                System.getProperty("java.class.path"), "-d", folder.toString(), source.toString());
        expect.same("compiling the page's Java", outcome, 0);
        if (outcome == 0) {
            run(folder);
        }
        delete(folder);
    }

    private void run(Path folder) throws IOException, ReflectiveOperationException {
        List<String> due = new ArrayList<>();
        List<String> got = new ArrayList<>();
        URL[] where = {folder.toUri().toURL()};
        try (URLClassLoader loader = new URLClassLoader(where)) {
            Method run = loader.loadClass("ReadmeRun").getMethod("run", List.class, List.class);
            run.invoke(null, due, got);
        } catch (InvocationTargetException thrown) {
            expect.fails("the page's Java threw " + thrown.getCause(), true);
        }
        expect.same("how many answers there were", got.size(), answers);
        for (int i = 0; i < got.size(); i++) {
            expect.holds("answer " + i + " of the page is " + got.get(i) + ", due is " + due.get(i),
                    got.get(i).equals(due.get(i)));
        }
    }

    private static void delete(Path folder) throws IOException {
        try (DirectoryStream<Path> files = Files.newDirectoryStream(folder)) {
            for (Path file : files) {
                Files.delete(file);
            }
        }
        Files.delete(folder);
    }

    private void namesEachTest(String page) throws IOException {
        int tests = 0;
        try (DirectoryStream<Path> files =
                Files.newDirectoryStream(Path.of("src/test/java"), "*Test.java")) {
            for (Path file : files) {
                String name = file.getFileName().toString().replace(".java", "");
                expect.holds("the page names " + name, page.contains("| `" + name + "` |"));
                tests++;
            }
        }
        expect.holds("tests were found", tests > 5);
        expect.holds("the page says how the tests are run", page.contains("bash .ci/run"));
        expect.holds("the page says how the class is compiled",
                page.contains("javac -d build src/main/java/FreckleChart.java"));
    }

    private void namesEachStatus(String page) {
        for (int status = 0; status <= 11; status++) {
            expect.holds("the page names STATUS " + status, page.contains("\n| " + status + " | "));
        }
    }
}
