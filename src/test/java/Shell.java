import java.io.IOException;
import java.nio.file.Path;

/** Runs commands as a reader of README.md would. */
final class Shell {
    /** What a command wrote, and how it ended. */
    record Result(int exit, String text) {
    }

    private Shell() {
    }

    static Result run(Path directory, String... command) throws IOException, InterruptedException {
        Process process = new ProcessBuilder(command).directory(directory.toFile()).redirectErrorStream(true).start();
        process.getOutputStream().close();
        String text = new String(process.getInputStream().readAllBytes());
        return new Result(process.waitFor(), text);
    }
}
