import java.io.IOException;
import java.io.PrintWriter;
import java.io.StringWriter;
import java.net.URL;
import java.net.URLClassLoader;
import java.nio.file.Files;
import java.nio.file.Path;
import java.util.ArrayList;
import java.util.List;
import java.util.Map;
import java.util.TreeMap;
import java.util.regex.Matcher;
import java.util.regex.Pattern;
import java.util.spi.ToolProvider;

/** README.md tells how to use the class: what it tells is held against the class and the document. */
public final class ReadmeTest {
    private static final Check CHECK = new Check();

    public static void main(String[] args) throws Exception {
        Path project = Path.of(System.getProperty("project", "."));
        Path shared = Path.of(System.getProperty("shared", "../shared"));
        String readme = Files.readString(project.resolve("README.md"));
        String document = Files.readString(shared.resolve("DOC.md"));
        Map<String, String> rows = rows(readme);
        calls(rows, document);
        refusals(rows, document);
        example(readme);
        tests(readme, project);
        CHECK.end();
    }

    /** A row of a table that begins with a call, by the call as it is written there. */
    private static Map<String, String> rows(String readme) {
        Map<String, String> rows = new TreeMap<>();
        Matcher row = Pattern.compile("(?m)^\\| `(\\w+\\([\\w, ]*\\))` \\|(.*)\\|$").matcher(readme);
        while (row.find()) {
            CHECK.holds("one row alone tells of " + row.group(1), rows.put(row.group(1), row.group(2)) == null);
        }
        return rows;
    }

    private static void calls(Map<String, String> rows, String document) {
        List<String> told = new ArrayList<>();
        Matcher line = Pattern.compile("    public (?:int|long) (\\w+\\(.*\\));").matcher(document);
        while (line.find()) {
            told.add(line.group(1).replaceAll("\\b(int|long) ", ""));
        }
        for (String call : told) {
            CHECK.holds("a row tells of " + call, rows.containsKey(call));
        }
        CHECK.due("rows of calls", rows.size(), told.size());
    }

    /** What a promise names as an answer below 0, the row's last column names too, in the promise's order. */
    private static void refusals(Map<String, String> rows, String document) {
        Pattern names = Pattern.compile("\\bBAD\\b|\\bNOT\\b|\\bFULL\\b|\\bSTATE\\b|-1[1-4]\\b|-100\\b");
        for (Map.Entry<String, String> row : rows.entrySet()) {
            String name = row.getKey().substring(0, row.getKey().indexOf('('));
            Matcher promise = Pattern.compile("## Promise \\d+: " + name + "\n\n`[^`]*`: (.*)\n").matcher(document);
            CHECK.holds("a promise tells of " + name, promise.find());
            List<String> wanted = found(names, promise.group(1));
            String column = row.getValue().substring(row.getValue().lastIndexOf('|'));
            List<String> had = found(names, column);
            CHECK.holds(name + ": " + wanted + " are named among " + had, had.containsAll(wanted));
            had.retainAll(wanted);
            CHECK.holds(name + ": in the order of " + wanted, had.equals(wanted));
        }
    }

    private static List<String> found(Pattern names, String text) {
        List<String> found = new ArrayList<>();
        Matcher m = names.matcher(text);
        while (m.find()) {
            found.add(m.group());
        }
        return found;
    }

    /** The example as a program of its own; a line's number behind // is held against what the line answers. */
    private static void example(String readme) throws Exception {
        Matcher block = Pattern.compile("(?s)```java\n(.*?)```").matcher(readme);
        CHECK.holds("there is an example", block.find());
        StringBuilder body = new StringBuilder();
        int answers = 0;
        for (String line : block.group(1).split("\n")) {
            body.append(line).append('\n');
            Matcher answer = Pattern.compile("^(?:int|long) (\\w+) = (.*);\\s*// (-?\\d+)").matcher(line);
            if (answer.find()) {
                answers++;
                body.append("got.accept(\"").append(answer.group(2)).append("\", new long[] {").append(answer.group(1))
                    .append(", ").append(answer.group(3)).append("});\n");
            }
        }
        CHECK.holds("the example tells answers", answers > 10);
        run("public class Example {\n"
            + "public static void run(java.util.function.BiConsumer<String, long[]> got) {\n" + body + "}\n}\n");
    }

    private static void run(String source) throws Exception {
        Path place = Files.createTempDirectory("readme");
        Path file = place.resolve("Example.java");
        Files.writeString(file, source);
        StringWriter told = new StringWriter();
        PrintWriter out = new PrintWriter(told);
        int code = ToolProvider.findFirst("javac").orElseThrow().run(out, out, "-d", place.toString(),
            "-cp", System.getProperty("java.class.path"), file.toString());
        CHECK.holds("the example compiles: " + told, code == 0);
        if (code == 0) {
            try (URLClassLoader loader = new URLClassLoader(new URL[] {place.toUri().toURL()})) {
                java.util.function.BiConsumer<String, long[]> got = (call, v) -> CHECK.due(call, v[0], v[1]);
                loader.loadClass("Example").getMethod("run", java.util.function.BiConsumer.class).invoke(null, got);
            }
        }
        clear(place);
    }

    private static void clear(Path place) throws IOException {
        try (var files = Files.list(place)) {
            for (Path file : files.toList()) {
                Files.delete(file);
            }
        }
        Files.delete(place);
    }

    private static void tests(String readme, Path project) throws IOException {
        CHECK.holds("how the tests are run", readme.contains("bash .ci/run"));
        try (var files = Files.list(project.resolve("src/test/java"))) {
            for (Path file : files.filter(f -> f.toString().endsWith("Test.java")).toList()) {
                String name = file.getFileName().toString().replace(".java", "");
                CHECK.holds("it names " + name, readme.contains("`" + name + "`"));
            }
        }
    }
}
