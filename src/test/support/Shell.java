import java.io.IOException;
import java.io.UncheckedIOException;
import java.nio.charset.StandardCharsets;
import java.nio.file.Files;
import java.nio.file.Path;
import java.util.Comparator;
import java.util.List;
import java.util.function.Consumer;
import java.util.stream.Stream;

/** Commands run in a directory: what they printed, and with which exit code they ended. */
final class Shell {
    final String printed;
    final int exit;

    private Shell(String printed, int exit) {
        this.printed = printed;
        this.exit = exit;
    }

    static Shell run(Path directory, String commands) {
        try {
            // What is told as an error is left out: a java may tell there which options it picked up.
            Process process = new ProcessBuilder("sh", "-c", commands).directory(directory.toFile())
                    .redirectError(ProcessBuilder.Redirect.DISCARD).start();
            process.getOutputStream().close();
            String printed = new String(process.getInputStream().readAllBytes(), StandardCharsets.UTF_8);
            return new Shell(printed, process.waitFor());
        } catch (IOException e) {
            throw new UncheckedIOException(e);
        } catch (InterruptedException e) {
            throw new IllegalStateException(e);
        }
    }

    /** A directory that is gone again when the test has ended. */
    static void inScratch(Consumer<Path> test) {
        try {
            Path scratch = Files.createTempDirectory("taryard");
            try {
                test.accept(scratch);
            } finally {
                for (Path path : below(scratch).stream().sorted(Comparator.reverseOrder()).toList()) {
                    Files.delete(path);
                }
            }
        } catch (IOException e) {
            throw new UncheckedIOException(e);
        }
    }

    static void copy(Path from, Path to) {
        try {
            for (Path path : below(from)) {
                Path copied = to.resolve(from.relativize(path).toString());
                if (Files.isDirectory(path)) {
                    Files.createDirectories(copied);
                } else {
                    Files.createDirectories(copied.toAbsolutePath().getParent());
                    Files.copy(path, copied);
                }
            }
        } catch (IOException e) {
            throw new UncheckedIOException(e);
        }
    }

    static String read(Path file) {
        try {
            return Files.readString(file);
        } catch (IOException e) {
            throw new UncheckedIOException(e);
        }
    }

    static void write(Path file, String text) {
        try {
            Files.createDirectories(file.getParent());
            // A copy of a file that may only be read can't be written over.
            Files.deleteIfExists(file);
            Files.writeString(file, text);
        } catch (IOException e) {
            throw new UncheckedIOException(e);
        }
    }

    /** The directory first, then all that is in it. */
    private static List<Path> below(Path directory) throws IOException {
        try (Stream<Path> paths = Files.walk(directory)) {
            return paths.toList();
        }
    }
}
