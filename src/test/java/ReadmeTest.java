import java.io.ByteArrayOutputStream;
import java.io.IOException;
import java.io.PrintStream;
import java.lang.reflect.InvocationTargetException;
import java.net.URL;
import java.net.URLClassLoader;
import java.nio.file.Files;
import java.nio.file.Path;
import java.util.ArrayList;
import java.util.Comparator;
import java.util.List;
import java.util.Set;
import java.util.TreeSet;
import java.util.regex.Matcher;
import java.util.regex.Pattern;
import java.util.stream.Stream;
import javax.tools.JavaCompiler;
import javax.tools.ToolProvider;

/** What README.md shows holds: its example compiles and prints what it says, and so do the rows of its tables. */
public final class ReadmeTest {
    private static final Checks checks = new Checks("ReadmeTest");
    private static final Pattern PRINTED = Pattern.compile("System\\.out\\.println\\(.*\\); // (.*)");
    private static final Pattern ROW_OF_CODE = Pattern.compile("\\| `([^`]*)` \\| `?([^`|]*?)`? \\|(?: (\\d+) \\|)?");
    private static final Pattern TEST_NAME = Pattern.compile("`(\\w+Test)`");

    public static void main(String[] args) throws Exception {
        List<String> lines = Files.readAllLines(Path.of("README.md"));
        Path folder = Files.createTempDirectory("readme");
        try {
            anExampleThatAnswersAsItSays(lines, folder);
            callsThatThrow(lines, folder);
        } finally {
            remove(folder);
        }
        setupTexts(lines);
        eachTestIsNamed(String.join("\n", lines));
        checks.end();
    }

    private static void remove(Path folder) throws IOException {
        try (Stream<Path> files = Files.walk(folder)) {
            files.sorted(Comparator.reverseOrder()).forEach(file -> file.toFile().delete());
        }
    }

    private static void anExampleThatAnswersAsItSays(List<String> lines, Path folder) throws Exception {
        int first = lines.indexOf("```java") + 1;
        int last = lines.indexOf("```");
        List<String> example = lines.subList(first, Math.max(first, last));
        List<String> due = new ArrayList<>();
        int prints = 0;
        for (String line : example) {
            prints += line.contains("println(") ? 1 : 0;
            Matcher printed = PRINTED.matcher(line.strip());
            if (printed.matches()) {
                due.add(printed.group(1));
            }
        }
        checks.same("the example prints", prints > 20, true);
        checks.same("each line that it prints is told", due.size(), prints);
        Class<?> compiled = compile("Example", String.join("\n", example), folder);
        PrintStream out = System.out;
        ByteArrayOutputStream printed = new ByteArrayOutputStream();
        System.setOut(new PrintStream(printed, true));
        try {
            compiled.getMethod("main", String[].class).invoke(null, (Object) new String[0]);
        } finally {
            System.setOut(out);
        }
        List<String> got = printed.toString().lines().toList();
        for (int k = 0; k < Math.max(due.size(), got.size()); k++) {
            checks.same("line " + (k + 1) + " of the example", lineAt(got, k), lineAt(due, k));
        }
    }

    private static String lineAt(List<String> lines, int k) {
        return k < lines.size() ? lines.get(k) : "nothing";
    }

    private static Class<?> compile(String name, String source, Path folder) throws Exception {
        Path file = folder.resolve(name + ".java");
        Files.writeString(file, source);
        JavaCompiler compiler = ToolProvider.getSystemJavaCompiler();
        int result = compiler.run(null, null, null, "-Xlint:all", "-Werror", "-d", folder.toString(),
                "-cp", System.getProperty("java.class.path"), file.toString());
        checks.same(name + " compiles", result, 0);
        try (URLClassLoader loader = new URLClassLoader(new URL[] {folder.toUri().toURL()})) {
            return loader.loadClass(name);
        }
    }

    /** The rows below a heading and the line behind it, up to the next line that is no row. */
    private static List<Matcher> rows(List<String> lines, String heading) {
        List<Matcher> rows = new ArrayList<>();
        int at = lines.indexOf(heading);
        checks.same("there is a table " + heading, at >= 0, true);
        for (int k = at + 2; at >= 0 && k < lines.size() && lines.get(k).startsWith("|"); k++) {
            Matcher row = ROW_OF_CODE.matcher(lines.get(k));
            checks.same("a row can be read: " + lines.get(k), row.matches(), true);
            rows.add(row);
        }
        checks.same("rows of the table " + heading, rows.size() >= 4, true);
        return rows;
    }

    private static void setupTexts(List<String> lines) throws Exception {
        for (Matcher row : rows(lines, "| setup text | `load` |")) {
            HubTrains trains = new HubTrains();
            checks.same(row.group(1), Checks.load(trains, row.group(1)), row.group(2));
            checks.same("no error in " + row.group(1), trains.errorOffset(), -1);
        }
        Set<String> codes = new TreeSet<>();
        for (Matcher row : rows(lines, "| setup text | `load` | `errorOffset()` |")) {
            HubTrains trains = new HubTrains();
            int code = HubTrains.class.getField(row.group(2)).getInt(null);
            checks.same(row.group(1), Checks.load(trains, row.group(1)), code);
            checks.same("the offset in " + row.group(1), trains.errorOffset(), row.group(3));
            codes.add(row.group(2));
        }
        checks.same("kinds of errors that are shown", codes.size(), 5);
    }

    private static void callsThatThrow(List<String> lines, Path folder) throws Exception {
        List<Matcher> rows = rows(lines, "| call | throws |");
        StringBuilder source = new StringBuilder("public final class Calls {\n");
        source.append("public static void call(int row) {\nHubTrains trains = new HubTrains();\nswitch (row) {\n");
        for (int k = 0; k < rows.size(); k++) {
            source.append("case " + k + ": trains." + rows.get(k).group(1) + "; break;\n");
        }
        source.append("default: break;\n}\n}\n}\n");
        Class<?> compiled = compile("Calls", source.toString(), folder);
        for (int k = 0; k < rows.size(); k++) {
            checks.same(rows.get(k).group(1), thrown(compiled, k), rows.get(k).group(2));
        }
    }

    private static String thrown(Class<?> compiled, int row) throws Exception {
        try {
            compiled.getMethod("call", int.class).invoke(null, row);
            return "nothing";
        } catch (InvocationTargetException e) {
            return e.getCause().getClass().getSimpleName();
        }
    }

    private static void eachTestIsNamed(String text) throws IOException {
        Set<String> named = new TreeSet<>();
        Matcher names = TEST_NAME.matcher(text);
        while (names.find()) {
            named.add(names.group(1));
        }
        Set<String> there = new TreeSet<>();
        Set<String> helpers = new TreeSet<>();
        try (Stream<Path> files = Files.list(Path.of("src/test/java"))) {
            for (Path file : files.toList()) {
                String name = file.getFileName().toString().replace(".java", "");
                (name.endsWith("Test") ? there : helpers).add(name);
            }
        }
        checks.same("the tests that are named", named, there);
        for (String helper : helpers) {
            checks.same(helper + " is named", text.contains("`" + helper + "`"), true);
        }
    }
}
