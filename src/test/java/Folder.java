import java.io.IOException;
import java.io.UncheckedIOException;
import java.nio.file.Files;
import java.nio.file.Path;
import java.util.ArrayList;
import java.util.Collections;
import java.util.List;
import java.util.stream.Stream;

/** A folder of a test's own, in which it writes files and runs commands, and which it removes. */
final class Folder {
    /** How a command ended, and all that it printed. */
    record Ended(int code, String printed) {
        List<String> lines() {
            return printed.lines().toList();
        }

        String lastLine() {
            return lines().isEmpty() ? "" : lines().get(lines().size() - 1);
        }
    }

    private final Path top;

    Folder() throws IOException {
        top = Files.createTempDirectory("bursts");
    }

    void write(String name, String content) throws IOException {
        Path file = top.resolve(name);
        Files.createDirectories(file.getParent());
        Files.writeString(file, content);
    }

    void remove(String name) throws IOException {
        Files.delete(top.resolve(name));
    }

    /** A file, or a folder with all that is in it; a script stays one that can be run. */
    void copy(Path from, String name) throws IOException {
        for (Path file : below(from)) {
            Path to = top.resolve(name).resolve(from.relativize(file).toString());
            if (Files.isDirectory(file)) {
                Files.createDirectories(to);
            } else {
                Files.createDirectories(to.getParent());
                Files.copy(file, to);
                Check.that("cannot be run: " + to, !Files.isExecutable(file) || to.toFile().setExecutable(true));
            }
        }
    }

    Ended run(String name, String commands) throws IOException, InterruptedException {
        ProcessBuilder builder = new ProcessBuilder("bash", "-e", "-c", commands);
        builder.directory(top.resolve(name).toFile());
        builder.redirectErrorStream(true);
        Process process = builder.start();
        process.getOutputStream().close();
        String printed = new String(process.getInputStream().readAllBytes());
        return new Ended(process.waitFor(), printed);
    }

    void removeAll() throws IOException {
        List<Path> all = below(top);
        Collections.reverse(all);
        for (Path file : all) {
            Files.delete(file);
        }
    }

    private static List<Path> below(Path from) {
        try (Stream<Path> all = Files.walk(from)) {
            return new ArrayList<>(all.toList());
        } catch (IOException e) {
            throw new UncheckedIOException(e);
        }
    }
}
