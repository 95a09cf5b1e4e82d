import java.io.IOException;
import java.nio.charset.StandardCharsets;
import java.nio.file.Files;
import java.nio.file.Path;
import java.util.Comparator;
import java.util.List;
import java.util.stream.Collectors;
import java.util.stream.Stream;

/** A folder for what a test writes; it is gone when the test closes it. */
final class Folder implements AutoCloseable {
    /** How a command ended, and all that it printed. */
    record Ran(int code, List<String> lines) {
        boolean shows(String line) {
            return lines.contains(line);
        }

        String lastLine() {
            return lines.isEmpty() ? "" : lines.get(lines.size() - 1);
        }
    }

    private final Path root;

    private Folder(Path root) {
        this.root = root;
    }

    static Folder make() throws IOException {
        return new Folder(Files.createTempDirectory("hextable"));
    }

    Path path(String name) {
        return root.resolve(name);
    }

    void write(String name, String text) throws IOException {
        Files.createDirectories(path(name).getParent());
        Files.writeString(path(name), text);
    }

    /** Copies a file of the project, or a folder with all that is in it. */
    void copy(String from, String to) throws IOException {
        List<Path> all;
        try (Stream<Path> walk = Files.walk(Path.of(from))) {
            all = walk.filter(Files::isRegularFile).collect(Collectors.toList());
        }
        for (Path file : all) {
            String inside = Path.of(from).relativize(file).toString();
            Path target = inside.isEmpty() ? path(to) : path(to).resolve(inside);
            Files.createDirectories(target.getParent());
            Files.copy(file, target);
        }
    }

    /** Runs commands in one of its folders; the first one that fails ends them. */
    Ran run(String where, String commands) throws IOException, InterruptedException {
        Process process = new ProcessBuilder("bash", "-e", "-c", commands)
            .directory(path(where).toFile()).redirectErrorStream(true).start();
        process.getOutputStream().close();
        String printed = new String(process.getInputStream().readAllBytes(), StandardCharsets.UTF_8);
        return new Ran(process.waitFor(), printed.lines().collect(Collectors.toList()));
    }

    @Override
    public void close() throws IOException {
        List<Path> all;
        try (Stream<Path> walk = Files.walk(root)) {
            all = walk.sorted(Comparator.reverseOrder()).collect(Collectors.toList());
        }
        for (Path file : all) {
            Files.delete(file);
        }
    }
}
