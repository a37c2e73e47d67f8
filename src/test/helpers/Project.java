import java.io.IOException;
import java.nio.charset.StandardCharsets;
import java.nio.file.Files;
import java.nio.file.Path;

/** Where the project's files are, by the two arguments that a test is given: the program's file and the document. */
final class Project {
    final Path program;
    final Path root;
    final String document;

    Project(String[] args) throws IOException {
        program = Path.of(args[0]).toAbsolutePath().normalize();
        root = program.getParent().getParent().getParent().getParent();
        document = read(Path.of(args[1]));
    }

    /** The project's own tests. */
    Path[] tests() throws IOException {
        try (var files = Files.list(root.resolve("src/test/java"))) {
            return files.filter(f -> f.toString().endsWith(".java")).sorted().toArray(Path[]::new);
        }
    }

    static String read(Path file) throws IOException {
        return new String(Files.readAllBytes(file), StandardCharsets.UTF_8);
    }
}
