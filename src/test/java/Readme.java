import java.io.IOException;
import java.nio.file.Files;
import java.nio.file.Path;
import java.util.ArrayList;
import java.util.List;

/** README.md, and the blocks of code that it shows. */
final class Readme {
    static final String USE = "How to use it";
    static final String TESTS = "How to run its tests";

    private static final String FENCE = "```";

    private final List<String> lines;

    Readme(Path file) throws IOException {
        lines = Files.readAllLines(file);
    }

    String text() {
        return String.join("\n", lines);
    }

    /** The lines of all blocks of a language under a heading, one behind the other. */
    List<String> code(String heading, String language) {
        List<String> code = new ArrayList<>();
        String section = "";
        String open = null;
        for (String line : lines) {
            boolean fence = line.startsWith(FENCE);
            if (fence) {
                open = open == null ? line.substring(FENCE.length()) : null;
            } else if (open == null && line.startsWith("## ")) {
                section = line.substring(3);
            } else if (language.equals(open) && section.equals(heading)) {
                code.add(line);
            }
        }
        return code;
    }
}
