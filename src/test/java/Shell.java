import java.io.IOException;
import java.nio.file.Files;
import java.nio.file.Path;

/** A command of the shell, begun in a directory. What it prints goes to a file, so that several can run at once. */
final class Shell {
    private final Path printed;
    private final Process process;

    Shell(Path where, String command) throws IOException {
        printed = Files.createTempFile("printed", ".txt");
        printed.toFile().deleteOnExit();
        process = new ProcessBuilder("sh", "-c", command).directory(where.toFile())
            .redirectErrorStream(true).redirectOutput(printed.toFile()).start();
    }

    int exit() throws InterruptedException {
        return process.waitFor();
    }

    String printed() throws IOException, InterruptedException {
        process.waitFor();
        return Files.readString(printed);
    }
}
