import java.io.IOException;
import java.lang.reflect.Method;
import java.lang.reflect.Modifier;
import java.nio.file.DirectoryStream;
import java.nio.file.Files;
import java.nio.file.Path;
import java.util.ArrayList;
import java.util.List;
import java.util.TreeSet;
import java.util.regex.Matcher;
import java.util.regex.Pattern;

/** README.md: its example answers as it says, its tables name all there is, its commands work. */
public final class ReadmeTest {
    private static final Path HERE = Path.of("").toAbsolutePath();
    private static final Path TESTS = HERE.resolve("src/test/java");
    private static final Pattern ANSWERED = Pattern.compile("^(plant\\..*);\\s+// -> (NONE|-?\\d+|true|false)\\b.*$");
    private static final Pattern THROWING = Pattern.compile("^(plant\\..*;)\\s+// throws (\\w+)$");
    private static final Pattern PLAIN = Pattern.compile("^(GatedLinks plant = new |plant\\.\\w+\\().*;\\s*(//.*)?$");

    private static final Check CHECK = new Check("ReadmeTest");

    public static void main(String[] args) throws IOException, InterruptedException {
        String text = Files.readString(HERE.resolve("README.md"));
        example(text);
        exampleHasAllCalls(text);
        calls(text);
        tests(text);
        files(text);
        commands(text);
        CHECK.end();
    }

    /** The blocks of a kind, as one text each. */
    private static List<String> blocks(String text, String kind) {
        List<String> blocks = new ArrayList<>();
        Matcher found = Pattern.compile("(?ms)^```" + kind + "\n(.*?)^```$").matcher(text);
        while (found.find()) {
            blocks.add(found.group(1));
        }
        return blocks;
    }

    /** The lines of the example become a program that tells each call whose answer is not the one that is told. */
    private static void example(String text) throws IOException, InterruptedException {
        CHECK.promise("the example");
        StringBuilder program = new StringBuilder("public final class Example {\n"
            + "static int wrong;\n"
            + "static void due(String call, String due, Object got) {\n"
            + "if (!String.valueOf(got).equals(due)) { wrong++; System.out.println(call + \" answered \" + got); }\n"
            + "}\n"
            + "public static void main(String[] args) {\n");
        int answers = 0;
        for (String line : String.join("", blocks(text, "java")).split("\n")) {
            String made = statement(line);
            CHECK.yes("a line of the example is understood: " + line, !made.isEmpty());
            answers += made.startsWith("due(") ? 1 : 0;
            program.append(made).append('\n');
        }
        program.append("if (wrong > 0) System.exit(1);\n}\n}\n");
        CHECK.yes("it tells many answers", answers > 30);
        Path directory = Files.createTempDirectory("example");
        Files.writeString(directory.resolve("Example.java"), program);
        works("it compiles", HERE, "javac", "-Xlint:all", "-Werror", "-d", directory.toString(),
            "src/main/java/GatedLinks.java", directory.resolve("Example.java").toString());
        works("it answers as it is told", directory, "java", "Example");
        remove(directory);
    }

    private static String statement(String line) {
        Matcher answered = ANSWERED.matcher(line);
        if (answered.matches()) {
            String due = answered.group(2).equals("NONE") ? "-1" : answered.group(2);
            return "due(\"" + answered.group(1) + "\", \"" + due + "\", " + answered.group(1) + ");";
        }
        Matcher throwing = THROWING.matcher(line);
        if (throwing.matches()) {
            return "try { " + throwing.group(1) + " due(\"" + throwing.group(1) + "\", \"an exception\", \"nothing\"); }"
                + " catch (RuntimeException e) { due(\"" + throwing.group(1) + "\", \"" + throwing.group(2)
                + "\", e.getClass().getSimpleName()); }";
        }
        return !line.contains("->") && PLAIN.matcher(line).matches() ? line : "";
    }

    private static void exampleHasAllCalls(String text) {
        String example = String.join("", blocks(text, "java"));
        for (Method method : GatedLinks.class.getDeclaredMethods()) {
            if (Modifier.isPublic(method.getModifiers())) {
                CHECK.yes("it calls " + method.getName(), example.contains("plant." + method.getName() + "("));
            }
        }
    }

    /** Each call of the face is a row, with its parameters and its exceptions in their order, and nothing else is. */
    private static void calls(String text) throws IOException {
        CHECK.promise("the table of all calls");
        String source = Files.readString(HERE.resolve("src/main/java/GatedLinks.java")).replaceAll("\\s+", " ");
        Matcher row = Pattern.compile("(?m)^\\| `(\\w+ \\w+\\([^)]*\\))` \\| .+ \\|([^|]*)\\|$").matcher(text);
        int rows = 0;
        while (row.find()) {
            rows++;
            List<String> thrown = new ArrayList<>();
            Matcher name = Pattern.compile("`(\\w+)`").matcher(row.group(2));
            while (name.find()) {
                thrown.add(name.group(1));
            }
            String ending = thrown.isEmpty() ? " {" : " throws " + String.join(", ", thrown) + " {";
            String head = row.group(1) + ending;
            CHECK.yes("it is there: " + head, source.contains("public " + head));
            int same = text.split(Pattern.quote("| `" + row.group(1) + "` |"), -1).length - 1;
            CHECK.is("rows of " + row.group(1), 1, same);
        }
        int calls = 0;
        for (Method method : GatedLinks.class.getDeclaredMethods()) {
            calls += Modifier.isPublic(method.getModifiers()) ? 1 : 0;
        }
        CHECK.is("rows", calls, rows);
    }

    private static void tests(String text) throws IOException {
        CHECK.promise("the table of the tests");
        TreeSet<String> told = new TreeSet<>();
        Matcher row = Pattern.compile("(?m)^\\| `(\\w+Test)` \\| .+ \\|$").matcher(text);
        while (row.find()) {
            CHECK.yes("one row of " + row.group(1), told.add(row.group(1)));
        }
        CHECK.same("tests", names("*Test.java").toString(), told.toString());
        for (String name : names("*.java")) {
            CHECK.yes("it names " + name, text.contains("`" + name + "`"));
        }
    }

    private static TreeSet<String> names(String files) throws IOException {
        TreeSet<String> names = new TreeSet<>();
        try (DirectoryStream<Path> found = Files.newDirectoryStream(TESTS, files)) {
            for (Path file : found) {
                names.add(file.getFileName().toString().replace(".java", ""));
            }
        }
        return names;
    }

    private static void files(String text) {
        CHECK.promise("files and directories");
        Matcher named = Pattern.compile("`([\\w./]*/[\\w./]+)`").matcher(text);
        while (named.find()) {
            CHECK.yes("it is there: " + named.group(1), Files.exists(HERE.resolve(named.group(1))));
        }
    }

    /** '.ci/run' runs this test, so it is not run by it; RunTest looks at what it does. */
    private static void commands(String text) throws IOException, InterruptedException {
        CHECK.promise("the commands");
        List<String> blocks = blocks(text, "sh");
        CHECK.is("blocks", 2, blocks.size());
        CHECK.same("the first", ".ci/run\n", blocks.get(0));
        CHECK.yes("it may be run", Files.isExecutable(HERE.resolve(".ci/run")));
        Shell.Result result = works("one test alone", HERE, "bash", "-e", "-c", blocks.get(1));
        CHECK.yes("it ran: " + result.text(), result.text().matches("SearchTest: \\d+ passed, 0 failed\n"));
    }

    private static Shell.Result works(String what, Path directory, String... command)
            throws IOException, InterruptedException {
        Shell.Result result = Shell.run(directory, command);
        CHECK.is(what + ": " + result.text() + "the exit code", 0, result.exit());
        return result;
    }

    private static void remove(Path directory) throws IOException {
        try (DirectoryStream<Path> found = Files.newDirectoryStream(directory)) {
            for (Path file : found) {
                Files.delete(file);
            }
        }
        Files.delete(directory);
    }
}
