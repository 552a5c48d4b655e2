import java.io.IOException;
import java.lang.reflect.Method;
import java.lang.reflect.Modifier;
import java.nio.file.Files;
import java.nio.file.Path;
import java.util.ArrayList;
import java.util.List;
import java.util.Set;
import java.util.TreeSet;
import java.util.regex.Matcher;
import java.util.regex.Pattern;
import java.util.stream.Stream;

/**
 * README.md, followed word for word in a copy of the project: its example is written, its commands are run, and what
 * they print is what it says. The arguments are the paths of BurstGrouper.java and of the document.
 */
public final class ReadmeTest {
    private static final Pattern BLOCK = Pattern.compile("^```(\\w+)\n(.*?)^```\n", Pattern.DOTALL | Pattern.MULTILINE);
    private static final Pattern CLASS = Pattern.compile("public final class (\\w+) \\{");
    private static final Pattern PRINTS = Pattern.compile("// prints (.+)");
    private static final Pattern NAMED = Pattern.compile("`(\\w+(?:Test|Edges)|Check|Faces|Folder|Picture|Sentences"
            + "|Worked|PlainGrouper)`");
    private static final String SOURCES = "src/test/java";
    /** The copy is without these: one would never end, the other one only takes long. */
    private static final String[] LEFT_OUT = {"ReadmeTest.java", "RandomRunsTest.java"};

    private ReadmeTest() {
    }

    public static void main(String[] arguments) throws IOException, InterruptedException {
        Path project = Path.of(arguments[0]).toAbsolutePath().normalize();
        for (int up = 0; up < 4; up++) {
            project = project.getParent();
        }
        String readme = Files.readString(project.resolve("README.md"));
        methods(readme);
        tests(readme, project.resolve(SOURCES));
        Folder folder = new Folder();
        try {
            copy(folder, project, Path.of(arguments[1]).toAbsolutePath().normalize().getParent());
            follow(folder, readme);
        } finally {
            folder.removeAll();
        }
        Check.end();
    }

    private static void methods(String readme) {
        for (Method method : BurstGrouper.class.getDeclaredMethods()) {
            Check.that("README.md does not name " + method.getName(), !Modifier.isPublic(method.getModifiers())
                    || readme.contains("`" + method.getName() + "`"));
        }
    }

    /** README.md names every file of the tests, and none that is not there. */
    private static void tests(String readme, Path sources) throws IOException {
        Set<String> named = new TreeSet<>();
        for (Matcher name = NAMED.matcher(readme); name.find();) {
            named.add(name.group(1) + ".java");
        }
        Set<String> there = new TreeSet<>();
        try (Stream<Path> files = Files.list(sources)) {
            files.forEach(file -> there.add(file.getFileName().toString()));
        }
        Check.due("the tests that README.md names", named.toString(), there.toString());
    }

    private static void copy(Folder folder, Path project, Path shared) throws IOException {
        for (String name : new String[] {"README.md", ".ci", "src"}) {
            folder.copy(project.resolve(name), "main/" + name);
        }
        for (String name : LEFT_OUT) {
            folder.remove("main/" + SOURCES + "/" + name);
        }
        folder.copy(shared, "shared");
    }

    private static void follow(Folder folder, String readme) throws IOException, InterruptedException {
        List<String> due = new ArrayList<>();
        int commands = 0;
        for (Matcher block = BLOCK.matcher(readme); block.find();) {
            String text = block.group(2);
            if (block.group(1).equals("java")) {
                due = write(folder, text);
            } else {
                Check.due("the kind of a block of README.md", block.group(1), "sh");
                Folder.Ended ended = folder.run("main", text);
                Check.that("ended with " + ended.code() + ": " + text + ended.printed(), ended.code() == 0);
                ending(text, ended, due);
                commands++;
            }
        }
        Check.due("blocks of commands in README.md", commands, 3);
    }

    private static List<String> write(Folder folder, String text) throws IOException {
        Matcher name = CLASS.matcher(text);
        Check.that("README.md has no class in: " + text, name.find());
        folder.write("main/" + name.group(1) + ".java", text);
        List<String> due = new ArrayList<>();
        for (Matcher prints = PRINTS.matcher(text); prints.find();) {
            due.add(prints.group(1));
        }
        Check.due("a comment for each line that is printed", text.split("println\\(").length - 1, due.size());
        return due;
    }

    private static void ending(String commands, Folder.Ended ended, List<String> due) {
        if (commands.contains("java -cp out Example")) {
            Check.due("what the example prints", ended.lines().toString(), due.toString());
        } else if (commands.equals(".ci/run\n")) {
            Check.that(".ci/run ended with: " + ended.lastLine(), ended.lastLine().matches("\\d+ passed, 0 failed"));
        } else {
            Check.that("no test ran: " + commands, ended.lastLine().matches("(\\d+) of \\1 checks hold"));
        }
    }
}
