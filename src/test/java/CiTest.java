import java.io.IOException;
import java.nio.file.Path;

/**
 * .ci/run, in small projects of which each but the first one has a fault that it must not let pass. The argument is
 * the path of BurstGrouper.java, from which the script is found.
 */
public final class CiTest {
    private static final String PASSES = "System.out.println(\"as due\");";
    private static final String FAILS = "System.exit(1);";
    private static final String THROWS = "throw new IllegalStateException();";
    private static final String NO_JAVA = "this is no Java";

    private CiTest() {
    }

    public static void main(String[] arguments) throws IOException, InterruptedException {
        Path script = Path.of(arguments[0]).toAbsolutePath().normalize().resolve("../../../../.ci/run").normalize();
        project("no fault", script, PASSES, PASSES, 0, "2 passed, 0 failed");
        project("an own test fails", script, FAILS, PASSES, 1, "1 passed, 1 failed");
        project("an own test throws", script, THROWS, PASSES, 1, "1 passed, 1 failed");
        project("an own test cannot be compiled", script, NO_JAVA, PASSES, 1, "1 passed, 1 failed");
        project("a shared test fails", script, PASSES, FAILS, 1, "1 passed, 1 failed");
        project("a shared test cannot be compiled", script, PASSES, NO_JAVA, 1, "1 passed, 1 failed");
        project("no shared test", script, PASSES, null, 1, "no test under .*");
        Check.end();
    }

    private static void project(String what, Path script, String own, String shared, int code, String last)
            throws IOException, InterruptedException {
        Folder folder = new Folder();
        try {
            folder.copy(script, "main/.ci/run");
            folder.write("main/src/main/java/BurstGrouper.java", "public final class BurstGrouper { }");
            folder.write("main/src/test/java/OwnTest.java", test("OwnTest", own));
            folder.write("shared/DOC.md", "");
            if (shared != null) {
                folder.write("shared/tests/Runs.java", test("Runs", shared));
            }
            Folder.Ended ended = folder.run("main", ".ci/run");
            Check.due(what + ": the exit code", ended.code(), code);
            Check.that(what + ": ended with " + ended.lastLine(), ended.lastLine().matches(last));
        } finally {
            folder.removeAll();
        }
    }

    private static String test(String name, String body) {
        return "public final class " + name + " { public static void main(String[] arguments) { " + body + " } }\n";
    }
}
