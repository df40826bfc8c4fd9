import java.io.IOException;
import java.io.UncheckedIOException;
import java.nio.charset.StandardCharsets;
import java.nio.file.Files;
import java.nio.file.Path;
import java.util.Comparator;
import java.util.List;
import java.util.stream.Collectors;
import java.util.stream.Stream;

/** A directory of its own for commands, taken away at the end. */
final class Shell {
    final Path directory;
    int exit;

    Shell() throws IOException {
        directory = Files.createTempDirectory("liarhall");
    }

    void write(String path, List<String> lines) throws IOException {
        Files.createDirectories(directory.resolve(path).getParent());
        Files.write(directory.resolve(path), lines);
    }

    /** What it prints; its exit code is kept. */
    List<String> run(String command) throws IOException, InterruptedException {
        ProcessBuilder builder = new ProcessBuilder("sh", "-c", command);
        Process process = builder.directory(directory.toFile()).redirectErrorStream(true).start();
        String printed = new String(process.getInputStream().readAllBytes(), StandardCharsets.UTF_8);
        exit = process.waitFor();
        return printed.lines().collect(Collectors.toList());
    }

    void close() throws IOException {
        try (Stream<Path> all = Files.walk(directory)) {
            all.sorted(Comparator.reverseOrder()).forEach(Shell::delete);
        }
    }

    private static void delete(Path path) {
        try {
            Files.delete(path);
        } catch (IOException e) {
            throw new UncheckedIOException(e);
        }
    }
}
