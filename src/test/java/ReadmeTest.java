import java.io.IOException;
import java.lang.reflect.Method;
import java.nio.file.Files;
import java.nio.file.Path;
import java.util.ArrayList;
import java.util.List;
import java.util.TreeSet;
import java.util.regex.Matcher;
import java.util.regex.Pattern;
import java.util.stream.Stream;

/** What README.md tells: each call of its example answers what is written beside it, and each test has its name there. */
public final class ReadmeTest {
    private static final Path README = Path.of("README.md");
    private static final Path TESTS = Path.of("src", "test", "java");
    private static final String MADE = "NarrowSolver x = new NarrowSolver();";
    private static final Pattern CALL = Pattern.compile("x\\.(\\w+)\\((.*)\\); +// (-?\\d+) .+");
    private final Check check = new Check();

    public static void main(String[] args) throws IOException, ReflectiveOperationException {
        ReadmeTest test = new ReadmeTest();
        List<String> lines = Files.readAllLines(README);
        test.example(exampleOf(lines));
        test.names(String.join("\n", lines));
        test.check.end();
    }

    private static List<String> exampleOf(List<String> lines) {
        int from = lines.indexOf("```java") + 1;
        List<String> found = new ArrayList<>(lines.subList(from, lines.size()));
        return found.subList(0, Math.max(0, found.indexOf("```")));
    }

    private void example(List<String> lines) throws ReflectiveOperationException {
        NarrowSolver x = new NarrowSolver();
        TreeSet<String> unused = new TreeSet<>(methods());
        check.due("the example makes an object first", lines.indexOf(MADE), 0);
        for (String line : lines) {
            if (line.isEmpty() || line.equals(MADE)) {
                continue;
            }
            Matcher call = CALL.matcher(line);
            check.due("a call with its answer: " + line, call.matches() ? 1 : 0, 1);
            if (call.matches()) {
                check.due(line, answer(x, call.group(1), call.group(2)), Long.parseLong(call.group(3)));
                unused.remove(call.group(1));
            }
        }
        check.due("methods that the example leaves out " + unused, unused.size(), 0);
    }

    private static List<String> methods() {
        return Stream.of(NarrowSolver.class.getDeclaredMethods()).filter(ReadmeTest::isOpen).map(Method::getName).toList();
    }

    private static boolean isOpen(Method method) {
        return java.lang.reflect.Modifier.isPublic(method.getModifiers());
    }

    private static int answer(NarrowSolver x, String name, String written) throws ReflectiveOperationException {
        Method method = Stream.of(NarrowSolver.class.getDeclaredMethods())
            .filter(m -> isOpen(m) && m.getName().equals(name)).findFirst().orElseThrow();
        String[] parts = written.isEmpty() ? new String[0] : written.split(", ");
        Object[] values = new Object[parts.length];
        for (int i = 0; i < parts.length; i++) {
            values[i] = value(parts[i]);
        }
        return (Integer) method.invoke(x, values);
    }

    private static Object value(String literal) {
        if (literal.equals("true") || literal.equals("false")) {
            return Boolean.valueOf(literal);
        }
        if (literal.endsWith("L")) {
            return Long.decode(literal.substring(0, literal.length() - 1).replace("_", ""));
        }
        return Integer.decode(literal);
    }

    private void names(String text) throws IOException {
        for (String name : methods()) {
            check.due("README.md tells of " + name, text.contains("`" + name + "(") ? 1 : 0, 1);
        }
        for (String name : "NONE BAD FULL ODD SHORT LONG SIDE DEEP TWICE FREE MANY OVER".split(" ")) {
            check.due("README.md tells of " + name, text.contains("`" + name + "`") ? 1 : 0, 1);
        }
        try (Stream<Path> files = Files.list(TESTS)) {
            for (String file : files.map(p -> p.getFileName().toString()).filter(f -> f.endsWith("Test.java")).toList()) {
                String name = file.substring(0, file.length() - ".java".length());
                check.due("README.md tells of " + name, text.contains("`" + name + "`") ? 1 : 0, 1);
            }
        }
    }
}
