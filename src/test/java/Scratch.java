import java.io.IOException;
import java.nio.file.Files;
import java.nio.file.Path;
import java.nio.file.StandardCopyOption;
import java.util.Comparator;
import java.util.List;
import java.util.stream.Collectors;
import java.util.stream.Stream;

/** A directory for as long as a test runs, so that the test leaves nothing in the project. */
final class Scratch implements AutoCloseable {
    final Path root;

    Scratch() throws IOException {
        root = Files.createTempDirectory("scratch");
    }

    void write(Path file, String text) throws IOException {
        Files.createDirectories(file.getParent());
        Files.writeString(file, text);
    }

    /** With its rights: a script stays one that can be run. */
    void copy(Path from, Path to) throws IOException {
        Files.createDirectories(to.getParent());
        Files.copy(from, to, StandardCopyOption.COPY_ATTRIBUTES);
    }

    static List<Path> filesUnder(Path directory) throws IOException {
        try (Stream<Path> paths = Files.walk(directory)) {
            return paths.filter(Files::isRegularFile).collect(Collectors.toList());
        }
    }

    @Override
    public void close() throws IOException {
        List<Path> all;
        try (Stream<Path> paths = Files.walk(root)) {
            all = paths.sorted(Comparator.reverseOrder()).collect(Collectors.toList());
        }
        for (Path path : all) {
            Files.delete(path);
        }
    }
}
