import java.io.IOException;
import java.nio.charset.StandardCharsets;
import java.nio.file.Path;
import java.util.List;

/** A program that was run to its end: its exit code and all that it printed. */
record Program(int exit, String printed) {
    static Program run(Path where, List<String> command) throws IOException, InterruptedException {
        Process process = new ProcessBuilder(command).directory(where.toFile()).redirectErrorStream(true).start();
        process.getOutputStream().close();
        String printed = new String(process.getInputStream().readAllBytes(), StandardCharsets.UTF_8);
        return new Program(process.waitFor(), printed);
    }
}
