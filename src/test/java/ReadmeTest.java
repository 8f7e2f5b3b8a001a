import java.io.File;
import java.io.IOException;
import java.lang.reflect.Method;
import java.lang.reflect.Modifier;
import java.nio.file.DirectoryStream;
import java.nio.file.Files;
import java.nio.file.Path;
import java.util.ArrayList;
import java.util.List;
import java.util.TreeSet;
import java.util.regex.Matcher;
import java.util.regex.Pattern;

/**
 * What README.md shows of the use of the class compiles as it stands there and answers as it says; it shows every
 * call of the face, and names every test and none that isn't there.
 */
public final class ReadmeTest {
    private static final Path ROOT = Path.of("").toAbsolutePath();
    private static final Path BUILD = ROOT.resolve("build/readme");
    private static final String EXAMPLE = "ReadmeExample";
    private static final Pattern ANSWERED =
            Pattern.compile("\\s*(?:int (\\w+) = )?([^;]+);\\s*// -> (?:(-?\\d+)|(\\w+Exception))(?:, .*)?");

    public static void main(String[] args) throws IOException, InterruptedException {
        Readme readme = new Readme(ROOT.resolve("README.md"));
        List<String> use = readme.code(Readme.USE, "java");
        Check.is("README.md shows code", use.isEmpty() ? 0 : 1, 1);
        everyCallIsShown(use);
        everyAnswerIsUnderstood(use);
        answersAsItSays(use);
        namesTheTests(readme.text());
        Check.end();
    }

    private static void everyCallIsShown(List<String> use) {
        String code = String.join("\n", use);
        for (Method method : PacketHeads.class.getDeclaredMethods()) {
            if (Modifier.isPublic(method.getModifiers())) {
                Check.is("README.md shows " + method.getName(), code.contains("." + method.getName() + "(") ? 1 : 0, 1);
            }
        }
    }

    /** An arrow in a line of another form would pass for mere words, and nothing would look at it. */
    private static void everyAnswerIsUnderstood(List<String> use) {
        for (String line : use) {
            if (line.contains("->")) {
                Check.is("README.md tells an answer in " + line, ANSWERED.matcher(line).matches() ? 1 : 0, 1);
            }
        }
    }

    private static void answersAsItSays(List<String> use) throws IOException, InterruptedException {
        Files.createDirectories(BUILD);
        Path source = BUILD.resolve(EXAMPLE + ".java");
        Files.write(source, example(use));
        String classes = System.getProperty("java.class.path");
        Program compiled = Program.run(ROOT, List.of("javac", "--release", "17", "-cp", classes, "-d", BUILD.toString(),
                source.toString()));
        System.out.print(compiled.printed());
        Check.is("javac of what README.md shows", compiled.exit(), 0);
        Program run = Program.run(ROOT, List.of("java", "-cp", classes + File.pathSeparator + BUILD, EXAMPLE));
        System.out.print("README.md: " + run.printed());
        Check.is("java of what README.md shows", run.exit(), 0);
    }

    /** The code once as it stands, and once with each call held to the answer that is told behind it. */
    private static List<String> example(List<String> use) {
        List<String> lines = new ArrayList<>();
        lines.add("public final class " + EXAMPLE + " {");
        lines.add("static void shown() {");
        lines.addAll(use);
        lines.add("}");
        lines.add("public static void main(String[] args) {");
        for (String line : use) {
            lines.add(held(line));
        }
        lines.add("Check.end();");
        lines.add("}");
        lines.add("}");
        return lines;
    }

    private static String held(String line) {
        Matcher told = ANSWERED.matcher(line);
        if (!told.matches()) {
            return line;
        }
        String name = told.group(1);
        String call = told.group(2);
        if (told.group(4) != null) {
            return "Check.thrown(\"" + call + "\", " + told.group(4) + ".class, () -> " + call + ");";
        }
        String value = name == null ? call : name;
        String before = name == null ? "" : "int " + name + " = " + call + "; ";
        return before + "Check.is(\"" + call + "\", " + value + ", " + told.group(3) + ");";
    }

    private static void namesTheTests(String text) throws IOException {
        TreeSet<String> there = new TreeSet<>();
        try (DirectoryStream<Path> tests = Files.newDirectoryStream(ROOT.resolve("src/test/java"), "*Test.java")) {
            for (Path test : tests) {
                there.add(test.getFileName().toString().replace(".java", ""));
            }
        }
        TreeSet<String> named = new TreeSet<>();
        Matcher name = Pattern.compile("`(\\w+Test)`").matcher(text);
        while (name.find()) {
            named.add(name.group(1));
        }
        Check.same("the tests that README.md names", named.toString(), there.toString());
    }
}
