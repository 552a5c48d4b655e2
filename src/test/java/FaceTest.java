import java.io.IOException;
import java.lang.reflect.Method;
import java.lang.reflect.Modifier;
import java.nio.file.Files;
import java.nio.file.Path;
import java.util.ArrayList;
import java.util.List;
import java.util.Set;
import java.util.TreeSet;
import java.util.regex.Matcher;
import java.util.regex.Pattern;

/**
 * "The public face": the class has what the document's page of Java has, and the promises tell of just this. The
 * arguments are the paths of BurstGrouper.java and of the document.
 */
public final class FaceTest {
    private static final Pattern PAGE = Pattern.compile("## The public face\n\n```java\n(.*?)\n```", Pattern.DOTALL);
    private static final Pattern LINE = Pattern.compile("    public ([^;]+);");
    private static final Pattern PROMISE = Pattern.compile("## Promise (\\d+): (.+)\n\n`([^`]+)`");
    private static final int PROMISES = 36;

    private FaceTest() {
    }

    public static void main(String[] arguments) throws IOException {
        String source = Files.readString(Path.of(arguments[0])).replaceAll("\\s+", " ");
        String document = Files.readString(Path.of(arguments[1]));
        Matcher page = PAGE.matcher(document);
        Check.that("the document has no page of Java", page.find());
        List<String> declared = new ArrayList<>();
        for (Matcher line = LINE.matcher(page.group(1)); line.find();) {
            declared.add(line.group(1));
        }
        Check.due("what the page declares", declared.size(), PROMISES);
        promises(document, declared);
        written(source, declared);
        compiled(declared);
        Check.end();
    }

    private static void promises(String document, List<String> declared) {
        int number = 0;
        for (Matcher promise = PROMISE.matcher(document); promise.find(); number++) {
            Check.due("the number of a promise", promise.group(1), String.valueOf(number + 1));
            String due = number < declared.size() ? declared.get(number) : "none";
            Check.due("promise " + promise.group(2), promise.group(3), due);
        }
        Check.due("the promises", number, PROMISES);
    }

    /** The source tells the names of the parameters, and the exceptions in the document's order. */
    private static void written(String source, List<String> declared) {
        for (String signature : declared) {
            Check.that("the source has no " + signature, source.contains("public " + signature + " {"));
        }
    }

    private static void compiled(List<String> declared) {
        Set<String> due = new TreeSet<>();
        for (String signature : declared.subList(1, declared.size())) {
            due.add(signature.replaceAll("(int|char|boolean) \\w+([,)])", "$1$2"));
        }
        Set<String> found = new TreeSet<>();
        for (Method method : BurstGrouper.class.getDeclaredMethods()) {
            if (!Modifier.isPrivate(method.getModifiers())) {
                found.add(signature(method));
            }
        }
        Check.due("the face", found.toString(), due.toString());
        Check.due("public constructors", BurstGrouper.class.getConstructors().length, 1);
        Check.due("what the constructor wants", BurstGrouper.class.getConstructors()[0].getParameterCount(), 0);
        Check.due("public fields", BurstGrouper.class.getFields().length, 0);
    }

    private static String signature(Method method) {
        return method.getReturnType().getSimpleName() + " " + method.getName()
                + "(" + names(method.getParameterTypes()) + ")"
                + (method.getExceptionTypes().length == 0 ? "" : " throws " + names(method.getExceptionTypes()));
    }

    private static String names(Class<?>[] types) {
        StringBuilder all = new StringBuilder();
        for (Class<?> type : types) {
            all.append(all.length() == 0 ? "" : ", ").append(type.getSimpleName());
        }
        return all.toString();
    }
}
