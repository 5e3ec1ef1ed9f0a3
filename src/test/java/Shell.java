import java.io.IOException;
import java.nio.file.Files;
import java.nio.file.Path;
import java.util.Comparator;
import java.util.List;
import java.util.stream.Collectors;
import java.util.stream.Stream;

/** A directory of a test's own, in which commands are run as one who reads the page would run them. */
final class Shell {

    private final Path directory;
    private String printed = "";

    Shell() throws IOException {
        directory = Files.createTempDirectory("circuitfold");
    }

    /** Writes a file, and the directories that lead to it. */
    Path write(String name, String text) throws IOException {
        Path file = directory.resolve(name);
        Files.createDirectories(file.getParent());
        return Files.writeString(file, text);
    }

    void delete(String name) throws IOException {
        Files.delete(directory.resolve(name));
    }

    /** The code with which the commands end, the first one that fails being the last. */
    int run(String commands) throws IOException, InterruptedException {
        Path log = directory.resolve("printed.txt");
        Process process = new ProcessBuilder("sh", "-e", "-c", commands)
                .directory(directory.toFile())
                .redirectOutput(log.toFile())
                .redirectError(directory.resolve("errors.txt").toFile())
                .start();
        int code = process.waitFor();
        printed = Files.readString(log);
        return code;
    }

    /** All that the last commands printed; what they said of errors, and the machine of its options, is not in it. */
    String printed() {
        return printed;
    }

    void remove() throws IOException {
        List<Path> files;
        try (Stream<Path> found = Files.walk(directory)) {
            files = found.sorted(Comparator.reverseOrder()).collect(Collectors.toList());
        }
        for (Path file : files) {
            Files.delete(file);
        }
    }
}
