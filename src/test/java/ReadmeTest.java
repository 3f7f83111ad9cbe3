import java.io.IOException;
import java.lang.reflect.Method;
import java.lang.reflect.Modifier;
import java.net.URL;
import java.net.URLClassLoader;
import java.nio.file.Files;
import java.nio.file.Path;
import java.util.ArrayList;
import java.util.List;
import java.util.regex.Matcher;
import java.util.regex.Pattern;
import javax.tools.ToolProvider;

/**
 * README.md: each call of its example answers what stands behind it, and each method is told with
 * all that it throws. The example is compiled as it stands there, so that it can be copied.
 */
public final class ReadmeTest {
    private static final Path README = Path.of("README.md");
    // A statement, then what is due, then perhaps why.
    private static final Pattern CALL = Pattern.compile(
            "(?:int (\\w+) = )?(x\\.(\\w+)\\(.*\\)); +// (throws \\w+|true|false|-?\\d+)(?::.*)?");
    private static final String MADE = "MemberChooser x = new MemberChooser();";
    private static final int MOST_CALLS = 512;

    private final List<String> lines = new ArrayList<>();
    private final List<String> told = new ArrayList<>();
    private final List<String> wanted = new ArrayList<>();
    private final List<String> methods = new ArrayList<>();
    private final StringBuilder body = new StringBuilder();

    public static void main(String[] args) throws Exception {
        new ReadmeTest().run();
        Checks.end();
    }

    private void run() throws Exception {
        lines.addAll(Files.readAllLines(README));
        for (String line : exampleLines()) {
            readLine(line);
        }
        dueAnswers(answersOfExample());
        for (Method method : MemberChooser.class.getDeclaredMethods()) {
            if (Modifier.isPublic(method.getModifiers())) {
                dueShown(method);
                dueTold(method);
            }
        }
    }

    private List<String> exampleLines() {
        List<String> example = new ArrayList<>();
        boolean inside = false;
        for (String line : lines) {
            if (line.startsWith("```")) {
                inside = line.equals("```java");
            } else if (inside && !line.isBlank()) {
                example.add(line);
            }
        }
        return example;
    }

    private void readLine(String line) {
        Matcher call = CALL.matcher(line);
        if (call.matches()) {
            told.add(call.group(2));
            wanted.add(call.group(4));
            methods.add(call.group(3));
            body.append(call.group(1) == null
                    ? "try { a.add(\"\" + " + call.group(2) + "); } catch (RuntimeException e) "
                            + "{ a.add(\"throws \" + e.getClass().getSimpleName()); }\n"
                    : "int " + call.group(1) + " = " + call.group(2) + "; a.add(\"\" + "
                            + call.group(1) + ");\n");
        } else {
            // A call whose answer can't be read would go by untested.
            Checks.due(MADE, "a line of the example that names no answer", () -> line);
            body.append(line).append('\n');
        }
    }

    private List<String> answersOfExample() throws Exception {
        Path place = Files.createTempDirectory("readme");
        Path source = place.resolve("Example.java");
        try {
            Files.writeString(source, "import java.util.*;\npublic final class Example {\n"
                    + "public static void run(List<String> a) {\n" + body + "}\n}\n");
            int code = ToolProvider.getSystemJavaCompiler().run(null, null, null, "-cp",
                    System.getProperty("java.class.path"), "-d", place.toString(),
                    source.toString());
            Checks.due(0, "javac of the example", () -> code);
            return code == 0 ? runFrom(place) : new ArrayList<>();
        } finally {
            Files.deleteIfExists(source);
            Files.deleteIfExists(place.resolve("Example.class"));
            Files.deleteIfExists(place);
        }
    }

    private static List<String> runFrom(Path place) throws IOException {
        List<String> answers = new ArrayList<>();
        try (URLClassLoader loader = new URLClassLoader(new URL[] {place.toUri().toURL()},
                ReadmeTest.class.getClassLoader())) {
            loader.loadClass("Example").getMethod("run", List.class).invoke(null, answers);
        } catch (ReflectiveOperationException e) {
            // What it answered ahead of that still counts, the rest is found wanting.
            System.out.println("the example broke off: " + e + ", " + e.getCause());
        }
        return answers;
    }

    private void dueAnswers(List<String> answers) {
        Checks.due(true, "at most 512 calls in the example", () -> wanted.size() <= MOST_CALLS);
        for (int i = 0; i < wanted.size(); i++) {
            String got = i < answers.size() ? answers.get(i) : "nothing";
            Checks.due(wanted.get(i), "README.md: " + told.get(i), () -> got);
        }
    }

    private void dueShown(Method method) {
        Checks.due(true, method.getName() + " in the example: shown",
                () -> methods.contains(method.getName()));
    }

    private void dueTold(Method method) {
        String section = sectionOf(method);
        for (String part : new String[] {"- takes: ", "- answers: "}) {
            Checks.due(true, method.getName() + " in README.md: " + part,
                    () -> section.contains(part));
        }
        Checks.due(method.getExceptionTypes().length > 0, method.getName() + ": - throws: ",
                () -> section.contains("- throws: "));
        for (Class<?> thrown : method.getExceptionTypes()) {
            Checks.due(true, method.getName() + ": " + thrown.getSimpleName() + " if ..",
                    () -> section.contains(thrown.getSimpleName() + " if "));
        }
    }

    /** From the heading that shows the method up to the next heading or piece of Java. */
    private String sectionOf(Method method) {
        String head = "#### `" + method.getReturnType() + " " + method.getName() + "(";
        StringBuilder section = new StringBuilder();
        boolean inside = false;
        for (String line : lines) {
            if (line.startsWith("#") || line.startsWith("```")) {
                inside = line.startsWith(head);
            }
            if (inside) {
                section.append(line).append('\n');
            }
        }
        return section.toString();
    }
}
