import java.io.IOException;
import java.nio.file.Files;
import java.nio.file.Path;
import java.nio.file.StandardCopyOption;
import java.util.List;

/**
 * The command that README.md names for the tests is the script that runs this test; and, tried on small projects,
 * it runs the project's own tests and the shared ones, and fails if one of them fails.
 */
public final class CommandTest {
    private static final Path ROOT = Path.of("").toAbsolutePath();
    private static final Path BUILD = ROOT.resolve("build/command");
    private static final String CLASS = "src/main/java/PacketHeads.java";
    private static final String OWN = "src/test/java/OwnTest.java";
    private static final String HELPER = "src/test/java/Helper.java";
    private static final String SHARED = "../shared/tests/FirstShared.java";
    private static final String LAST = "../shared/tests/LastShared.java";
    private static final String NO_JAVA = "public final class {";

    private static String command;
    private static int projects = 0;

    public static void main(String[] args) throws IOException, InterruptedException {
        List<String> named = new Readme(ROOT.resolve("README.md")).code(Readme.TESTS, "sh");
        Check.is("README.md names so many commands", named.size(), 1);
        if (named.size() == 1) {
            command = named.get(0);
            isTheScriptThatRunsThis();
            runsAllTests();
            failsWithATest();
            failsWithoutTests();
        }
        Check.end();
    }

    private static void isTheScriptThatRunsThis() throws IOException {
        String script = System.getProperty("tests.script", "");
        Path file = ROOT.resolve(command);
        boolean same = !script.isEmpty() && Files.exists(file) && Files.isSameFile(file, Path.of(script));
        Check.is("'" + command + "' is the script that runs the tests, '" + script + "'", same ? 1 : 0, 1);
        Check.is("'" + command + "' can be run", Files.isExecutable(file) ? 1 : 0, 1);
    }

    private static void runsAllTests() throws IOException, InterruptedException {
        Program run = run(project());
        Check.is("exit code if all tests pass", run.exit(), 0);
        Check.is("the project's own test ran", run.printed().contains("Here is OwnTest") ? 1 : 0, 1);
        Check.is("a shared test ran", run.printed().contains("Here is FirstShared") ? 1 : 0, 1);
        Check.is("the other shared test ran", run.printed().contains("Here is LastShared") ? 1 : 0, 1);
    }

    private static void failsWithATest() throws IOException, InterruptedException {
        fails("the project's own test fails", OWN, test("OwnTest", 1));
        fails("the project's own test does not compile", OWN, NO_JAVA);
        fails("what its own tests use does not compile", HELPER, NO_JAVA);
        fails("the class does not compile", CLASS, NO_JAVA);
        fails("a shared test fails, and not the last one", SHARED, test("FirstShared", 1));
        fails("the last shared test ends with another exit code", LAST, test("LastShared", 3));
        fails("a shared test does not compile", SHARED, NO_JAVA);
        fails("a shared test throws", SHARED, "public final class FirstShared { public static void main(String[] args) "
                + "{ throw new IllegalStateException(); } }");
        fails("a shared test uses what the class has not", SHARED, "public final class FirstShared { "
                + "public static void main(String[] args) { new PacketHeads().none(); } }");
    }

    private static void failsWithoutTests() throws IOException, InterruptedException {
        Path project = project();
        Files.delete(project.resolve(SHARED));
        Files.delete(project.resolve(LAST));
        failed("there is no shared test", run(project));
    }

    private static void fails(String what, String file, String text) throws IOException, InterruptedException {
        Path project = project();
        Files.writeString(project.resolve(file), text);
        failed(what, run(project));
    }

    private static void failed(String what, Program run) {
        Check.is("exit code is 0 if " + what, run.exit() == 0 ? 1 : 0, 0);
    }

    private static Program run(Path project) throws IOException, InterruptedException {
        return Program.run(project, List.of("sh", "-c", command));
    }

    /** A small project whose tests all pass, with the command of this one. */
    private static Path project() throws IOException {
        projects++;
        Path project = BUILD.resolve(projects + "/main");
        Files.createDirectories(project.resolve(command).getParent());
        Files.createDirectories(project.resolve(CLASS).getParent());
        Files.createDirectories(project.resolve(OWN).getParent());
        Files.createDirectories(project.resolve(SHARED).normalize().getParent());
        Files.copy(ROOT.resolve(command), project.resolve(command), StandardCopyOption.COPY_ATTRIBUTES);
        Files.writeString(project.resolve(CLASS), "public final class PacketHeads { }");
        Files.writeString(project.resolve(HELPER), "final class Helper { }");
        Files.writeString(project.resolve(OWN), test("OwnTest", 0));
        Files.writeString(project.resolve(SHARED), test("FirstShared", 0));
        Files.writeString(project.resolve(LAST), test("LastShared", 0));
        return project;
    }

    private static String test(String name, int exit) {
        return "public final class " + name + " { public static void main(String[] args) { new PacketHeads(); "
                + "System.out.println(\"Here is " + name + "\"); System.exit(" + exit + "); } }";
    }
}
