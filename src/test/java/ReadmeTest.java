import java.io.ByteArrayOutputStream;
import java.io.IOException;
import java.io.PrintStream;
import java.lang.reflect.Method;
import java.net.URL;
import java.net.URLClassLoader;
import java.nio.file.Files;
import java.nio.file.Path;
import java.util.ArrayList;
import java.util.List;
import java.util.TreeSet;
import java.util.regex.Matcher;
import java.util.regex.Pattern;
import java.util.stream.Stream;
import javax.tools.ToolProvider;

/** What README.md and EDGES.md tell of the class and of the tests; it runs where these pages stand. */
public final class ReadmeTest {
    private static final Path PAGE = Path.of("README.md");
    private static final Path EDGES = Path.of("EDGES.md");
    private static final Path TESTS = Path.of("src/test/java");
    private static final Path SHARED_TESTS = Path.of("../shared/tests");
    private static final Path BUILT = Path.of("build/readme");
    private static final String EXAMPLE = "ReadmeExample";
    private static final String PRINTS = "// prints ";
    private static final Expect EXPECT = new Expect();

    public static void main(String[] args) throws Exception {
        exampleAnswersAsTold();
        namesEachTest();
        edgesNameTestsThatThereAre();
        namesTheLettersOfTheRule();
        namesTheLettersOfRecords();
        hasWhatIsRun();
        EXPECT.end();
    }

    private static List<String> example() throws IOException {
        List<String> lines = new ArrayList<>();
        boolean isInside = false;
        for (String line : Files.readAllLines(PAGE)) {
            if (line.startsWith("```")) {
                isInside = line.equals("```java");
            } else if (isInside) {
                lines.add(line);
            }
        }
        return lines;
    }

    private static void compile(List<String> lines) throws IOException {
        Files.createDirectories(BUILT);
        Path file = BUILT.resolve(EXAMPLE + ".java");
        String body = String.join("\n", lines);
        Files.writeString(file, "public final class " + EXAMPLE
                + " {\n    public static void main(String[] args) {\n" + body + "\n    }\n}\n");
        String paths = System.getProperty("java.class.path");
        int failed = ToolProvider.getSystemJavaCompiler()
                .run(null, null, null, "-cp", paths, "-d", BUILT.toString(), file.toString());
        EXPECT.same("the example compiles", failed, 0);
    }

    private static List<String> printedByExample() throws Exception {
        ByteArrayOutputStream bytes = new ByteArrayOutputStream();
        PrintStream before = System.out;
        try (URLClassLoader loader = new URLClassLoader(new URL[] {BUILT.toUri().toURL()})) {
            Method main = loader.loadClass(EXAMPLE).getMethod("main", String[].class);
            System.setOut(new PrintStream(bytes, true));
            main.invoke(null, (Object) new String[0]);
        } finally {
            System.setOut(before);
        }
        return bytes.toString().lines().toList();
    }

    private static void exampleAnswersAsTold() throws Exception {
        List<String> lines = example();
        List<String> due = new ArrayList<>();
        for (String line : lines) {
            int at = line.indexOf(PRINTS);
            EXPECT.same("tells what it prints: " + line, at >= 0, line.contains("println"));
            if (at >= 0) {
                due.add(line.substring(at + PRINTS.length()));
            }
        }
        EXPECT.same("the example prints", due.size() >= 10, true);
        compile(lines);
        EXPECT.sameText("the example", String.join("\n", printedByExample()), String.join("\n", due));
    }

    private static TreeSet<String> namesIn(Path page, String pattern) throws IOException {
        TreeSet<String> names = new TreeSet<>();
        Matcher matcher = Pattern.compile(pattern, Pattern.MULTILINE).matcher(Files.readString(page));
        while (matcher.find()) {
            names.add(matcher.group(1));
        }
        return names;
    }

    private static void namesEachTest() throws IOException {
        TreeSet<String> due = new TreeSet<>();
        try (Stream<Path> files = Files.list(TESTS)) {
            files.map(file -> file.getFileName().toString()).filter(name -> name.endsWith("Test.java"))
                    .forEach(name -> due.add(name.substring(0, name.length() - ".java".length())));
        }
        TreeSet<String> got = namesIn(PAGE, "^\\| `(\\w+Test)` \\|");
        EXPECT.sameText("the tests that are named", String.join("\n", got), String.join("\n", due));
    }

    private static void edgesNameTestsThatThereAre() throws Exception {
        TreeSet<String> names = namesIn(EDGES, "`(\\w+Test(?:\\.\\w+)?)`");
        EXPECT.same("names in EDGES.md", names.size() > 100, true);
        for (String name : names) {
            String[] parts = name.split("\\.");
            boolean is = parts.length == 1 ? Files.exists(TESTS.resolve(name + ".java")) : hasTest(parts[0], parts[1]);
            EXPECT.same("there is " + name, is, true);
        }
    }

    private static boolean hasTest(String className, String method) throws ClassNotFoundException {
        for (Method m : Class.forName(className).getDeclaredMethods()) {
            if (m.getName().equals(method)) {
                return true;
            }
        }
        return false;
    }

    private static String lettersTold(String call) throws IOException {
        TreeSet<String> row = namesIn(PAGE, "^\\| `" + call + "` \\| (.*) \\|$");
        EXPECT.same("rows of " + call, row.size(), 1);
        StringBuilder letters = new StringBuilder();
        Matcher matcher = Pattern.compile("`(.)`").matcher(row.isEmpty() ? "" : row.first());
        while (matcher.find()) {
            letters.append(matcher.group(1));
        }
        return letters.toString();
    }

    private static void namesTheLettersOfTheRule() throws IOException {
        String told = lettersTold("setRule");
        WaferYard yard = new WaferYard();
        for (char sign = 0; sign < 256; sign++) {
            boolean isTaken = true;
            try {
                yard.setRule(sign, '-', '-', '-');
            } catch (IllegalArgumentException e) {
                isTaken = false;
            }
            EXPECT.same("in a rule: " + (int) sign, isTaken, told.indexOf(sign) >= 0);
        }
    }

    private static void namesTheLettersOfRecords() throws IOException {
        String told = lettersTold("recordAt");
        WaferYard yard = Yards.small();
        yard.start(0, 1, 0);
        yard.pass(5);
        for (char sign = 0; sign < 256; sign++) {
            boolean isTold = true;
            try {
                yard.recordAt(0, 0, sign);
            } catch (IllegalArgumentException e) {
                isTold = false;
            }
            EXPECT.same("of a record: " + (int) sign, isTold, told.indexOf(sign) >= 0);
        }
    }

    private static void hasWhatIsRun() throws IOException {
        EXPECT.same("a script", Files.isExecutable(Path.of(".ci/run")), true);
        try (Stream<Path> files = Files.list(SHARED_TESTS)) {
            EXPECT.same("shared tests", files.anyMatch(file -> file.toString().endsWith(".java")), true);
        }
        for (String command : new String[] {".ci/run", "java -cp build/main:build/own FitTest"}) {
            EXPECT.same("the page names " + command, Files.readString(PAGE).contains("`" + command + "`"), true);
        }
    }
}
