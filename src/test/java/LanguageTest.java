import java.io.IOException;
import java.lang.reflect.Constructor;
import java.lang.reflect.Field;
import java.lang.reflect.Method;
import java.lang.reflect.Modifier;
import java.nio.file.Files;
import java.nio.file.Path;
import java.util.Set;
import java.util.TreeSet;
import java.util.regex.Pattern;

/** What of ../shared/LANGUAGE.md can be seen in the class and in its source, whose path is the first argument. */
public final class LanguageTest {
    /** What the rules forbid, or what this program does without; patterns. */
    private static final String[] FORBIDDEN = {"->", "::", "Exact", "System\\.", "Thread|Object",
        "\\b(equals|hashCode|toString)\\b", "\\b(try|catch|finally|synchronized|assert|instanceof|package)\\b"};

    public static void main(String[] arguments) throws IOException {
        names();
        members();
        source(Files.readString(Path.of(arguments[0])));
        Check.end();
    }

    private static void names() {
        Set<String> names = new TreeSet<>();
        for (Method method : BurstGrouper.class.getDeclaredMethods()) {
            if (!Modifier.isPrivate(method.getModifiers())) {
                Check.due("modifiers of " + method.getName(), method.getModifiers(), Modifier.PUBLIC);
                names.add(method.getName());
            }
        }
        for (Method method : BurstGrouper.class.getDeclaredMethods()) {
            Check.that("a private method bears the name " + method.getName(),
                    Modifier.isPublic(method.getModifiers()) || !names.contains(method.getName()));
        }
    }

    private static void members() {
        Check.due("the class", BurstGrouper.class.getModifiers(), Modifier.PUBLIC | Modifier.FINAL);
        Constructor<?>[] constructors = BurstGrouper.class.getDeclaredConstructors();
        Check.due("constructors", constructors.length, 1);
        Check.due("the constructor", constructors[0].getModifiers(), Modifier.PUBLIC);
        privateFields(BurstGrouper.class);
        Class<?>[] inside = BurstGrouper.class.getDeclaredClasses();
        Check.that("at most twelve classes", inside.length <= 11);
        for (Class<?> own : inside) {
            Check.that(own + " is static and not public",
                    Modifier.isStatic(own.getModifiers()) && !Modifier.isPublic(own.getModifiers()));
            staticFields(own);
        }
    }

    private static void privateFields(Class<?> own) {
        for (Field field : own.getDeclaredFields()) {
            Check.that(field + " is private", Modifier.isPrivate(field.getModifiers()));
        }
        staticFields(own);
    }

    private static void staticFields(Class<?> own) {
        int fields = 0;
        for (Field field : own.getDeclaredFields()) {
            boolean isStatic = Modifier.isStatic(field.getModifiers());
            fields += isStatic ? 0 : 1;
            Check.that(field + " is final", !isStatic || Modifier.isFinal(field.getModifiers()));
        }
        Check.that(own + " has some twenty fields at most", fields <= 20);
    }

    private static void source(String source) {
        for (String line : source.split("\n")) {
            String code = line.strip();
            if (code.startsWith("//") || code.startsWith("*") || code.startsWith("/*")) {
                continue;
            }
            for (String word : FORBIDDEN) {
                Check.that("the source has " + word + " in: " + code, !Pattern.compile(word).matcher(code).find());
            }
            Check.that("an import: " + code,
                    !code.startsWith("import") || code.equals("import java.util.NoSuchElementException;"));
            // Objects are made with their owners and used again, for the room of a run is small.
            Check.that("an object is made in: " + code, !code.contains("new ") || code.startsWith("throw new ")
                    || code.contains("final ") || code.startsWith("cells = new int["));
        }
    }
}
