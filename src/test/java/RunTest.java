import java.io.IOException;
import java.nio.file.DirectoryStream;
import java.nio.file.Files;
import java.nio.file.Path;
import java.nio.file.StandardCopyOption;
import java.util.ArrayList;
import java.util.List;
import java.util.TreeSet;
import java.util.concurrent.Callable;
import java.util.concurrent.ExecutorService;
import java.util.concurrent.Executors;
import java.util.concurrent.Future;
import java.util.stream.Stream;

/** .ci/run in small projects: it runs every test of the project and every one under ../shared/tests, and can fail. */
public final class RunTest {
    private static final Path HERE = Path.of("").toAbsolutePath();
    private static final String CLASS = "main/src/main/java/GatedLinks.java";
    private static final String FIRST = "main/src/test/java/FirstTest.java";
    private static final String LAST = "main/src/test/java/LastTest.java";
    private static final String SHARED_FIRST = "shared/tests/SharedFirst.java";
    private static final String SHARED_LAST = "shared/tests/SharedLast.java";
    private static final String[] TESTS = {FIRST, LAST, SHARED_FIRST, SHARED_LAST};
    private static final String NO_TEXT = null;
    /** No exit code of a run: it left other files than there were. */
    private static final int LEFT = -1;

    private static final Check CHECK = new Check("RunTest");

    /** A small project in which one file is another than it should be. */
    private record Project(String what, String file, String text, boolean passes, String... tells) {
    }

    public static void main(String[] args) throws Exception {
        List<Project> projects = projects();
        List<Callable<Shell.Result>> runs = new ArrayList<>();
        for (Project project : projects) {
            runs.add(() -> run(project));
        }
        ExecutorService several = Executors.newFixedThreadPool(4);
        List<Future<Shell.Result>> ended = several.invokeAll(runs);
        several.shutdown();
        for (int i = 0; i < projects.size(); i++) {
            compare(projects.get(i), ended.get(i).get());
        }
        CHECK.end();
    }

    private static List<Project> projects() {
        String bad = "System.exit(1);";
        String thrown = "if (args.length == 0) throw new IllegalStateException();";
        List<Project> projects = new ArrayList<>();
        projects.add(new Project("all is well", FIRST, program(FIRST, ""), true, "ran FirstTest", "ran LastTest",
            "ran SharedFirst", "ran SharedLast", "4 passed, 0 failed"));
        projects.add(new Project("a warning about a shared test", SHARED_FIRST,
            program(SHARED_FIRST, "Object list = new java.util.ArrayList();"), true, "4 passed, 0 failed"));
        projects.add(new Project("a first test fails", FIRST, program(FIRST, bad), false, "FAILED  FirstTest",
            "ran LastTest", "ran SharedFirst", "ran SharedLast", "3 passed, 1 failed"));
        projects.add(new Project("a last test throws", LAST, program(LAST, thrown), false, "FAILED  LastTest",
            "ran FirstTest", "ran SharedFirst", "ran SharedLast"));
        projects.add(new Project("a test does not compile", LAST, program(LAST, "no();"), false,
            "FAILED  the tests of the project", "ran SharedFirst", "ran SharedLast"));
        projects.add(new Project("a first shared test fails", SHARED_FIRST, program(SHARED_FIRST, bad), false,
            "FAILED  ../shared/tests/SharedFirst", "ran FirstTest", "ran LastTest", "ran SharedLast"));
        projects.add(new Project("a last shared test fails", SHARED_LAST, program(SHARED_LAST, bad), false,
            "FAILED  ../shared/tests/SharedLast", "ran FirstTest", "ran LastTest", "ran SharedFirst"));
        projects.add(new Project("a shared test does not compile", SHARED_LAST, program(SHARED_LAST, "no();"), false,
            "FAILED  ../shared/tests/SharedLast", "ran FirstTest", "ran LastTest", "ran SharedFirst"));
        projects.add(new Project("the class does not compile", CLASS, "public final class GatedLinks {", false));
        projects.add(new Project("the class is not there", CLASS, NO_TEXT, false));
        return projects;
    }

    private static String name(String file) {
        return file.substring(file.lastIndexOf('/') + 1).replace(".java", "");
    }

    private static String program(String file, String more) {
        return "public final class " + name(file) + " {\npublic static void main(String[] args) {\n"
            + "new GatedLinks().tick(1);\nSystem.out.println(\"ran " + name(file) + "\");\n" + more + "\n}\n}\n";
    }

    private static Shell.Result run(Project project) throws IOException, InterruptedException {
        Path root = Files.createTempDirectory("project");
        for (String test : TESTS) {
            write(root.resolve(test), program(test, ""));
        }
        write(root.resolve(CLASS), Files.readString(HERE.resolve("src/main/java/GatedLinks.java")));
        Files.delete(root.resolve(project.file()));
        if (project.text() != NO_TEXT) {
            write(root.resolve(project.file()), project.text());
        }
        Path script = root.resolve("main/.ci/run");
        Files.createDirectories(script.getParent());
        Files.copy(HERE.resolve(".ci/run"), script, StandardCopyOption.COPY_ATTRIBUTES);
        TreeSet<String> before = files(root);
        Shell.Result result = Shell.run(root, script.toString());
        TreeSet<String> after = files(root);
        remove(root);
        return before.equals(after) ? result : new Shell.Result(LEFT, "it left " + after);
    }

    private static TreeSet<String> files(Path root) throws IOException {
        TreeSet<String> names = new TreeSet<>();
        try (Stream<Path> found = Files.walk(root)) {
            found.forEach(path -> names.add(root.relativize(path).toString()));
        }
        return names;
    }

    private static void write(Path file, String text) throws IOException {
        Files.createDirectories(file.getParent());
        Files.writeString(file, text);
    }

    private static void remove(Path path) throws IOException {
        if (Files.isDirectory(path)) {
            try (DirectoryStream<Path> parts = Files.newDirectoryStream(path)) {
                for (Path part : parts) {
                    remove(part);
                }
            }
        }
        Files.delete(path);
    }

    private static void compare(Project project, Shell.Result result) {
        CHECK.promise(".ci/run, " + project.what());
        CHECK.is("it wrote\n" + result.text() + "and its exit code", project.passes() ? 0 : 1, result.exit());
        for (String told : project.tells()) {
            CHECK.yes("it wrote\n" + result.text() + "and '" + told + "'", result.text().contains(told));
        }
    }
}
