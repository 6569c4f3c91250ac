import java.io.IOException;
import java.lang.reflect.Method;
import java.lang.reflect.Modifier;
import java.nio.file.Files;
import java.nio.file.Path;
import java.util.HashMap;
import java.util.List;
import java.util.Map;
import java.util.Set;
import java.util.TreeSet;
import java.util.regex.Matcher;
import java.util.regex.Pattern;
import java.util.stream.Stream;

/** What README.md shows is so: each call with its answer, each finding with its number, each test by its name. */
public final class ReadmeTest {
    private static final Pattern CALL = Pattern.compile("x\\.(\\w+)\\((.*)\\); +// (-?\\d+|[A-Z]+)(: .*)?");
    private static final Pattern FINDING = Pattern.compile("\\| (-\\d+) \\| ([A-Z]+) \\|.*");

    private static final Map<String, Integer> findings = new HashMap<>();
    private static final Map<String, Method> methods = new HashMap<>();
    private static final Set<String> shown = new TreeSet<>();

    public static void main(String[] args) throws IOException, ReflectiveOperationException {
        List<String> lines = Files.readAllLines(Path.of("README.md"));
        for (Method m : WallDown.class.getDeclaredMethods()) {
            if (Modifier.isPublic(m.getModifiers())) {
                methods.put(m.getName(), m);
            }
        }
        table(lines);
        blocks(lines);
        Check.that("README.md shows each call: " + methods.keySet() + ", not " + shown,
                shown.equals(methods.keySet()));
        tests(String.join("\n", lines));
        Check.end();
    }

    private static void table(List<String> lines) {
        for (String line : lines) {
            Matcher row = FINDING.matcher(line);
            if (row.matches()) {
                findings.put(row.group(2), Integer.valueOf(row.group(1)));
            }
        }
        Check.that("the findings of README.md are the document's, not " + findings, findings.equals(Map.of(
                "BEYOND", Check.BEYOND, "FULL", Check.FULL, "KIND", Check.KIND, "NONE", Check.NONE,
                "STATE", Check.STATE, "MISSING", Check.MISSING, "SIZE", Check.SIZE)));
    }

    /** Every line of a block of Java is a new object or a call with its answer, so none goes unseen. */
    private static void blocks(List<String> lines) throws ReflectiveOperationException {
        WallDown x = null;
        boolean inside = false;
        for (String line : lines) {
            if (line.startsWith("```")) {
                inside = line.equals("```java");
                x = null;
            } else if (inside && line.equals("WallDown x = new WallDown();")) {
                x = new WallDown();
            } else if (inside) {
                Matcher call = CALL.matcher(line);
                boolean known = x != null && call.matches() && methods.containsKey(call.group(1));
                Check.that("a call with its answer: " + line, known);
                if (known) {
                    answer(x, line, call);
                }
            }
        }
    }

    private static void answer(WallDown x, String line, Matcher call) throws ReflectiveOperationException {
        Method method = methods.get(call.group(1));
        Class<?>[] types = method.getParameterTypes();
        String[] told = call.group(2).isEmpty() ? new String[0] : call.group(2).split(", ");
        Check.due("how many arguments has " + line, told.length, types.length);
        Object[] arguments = new Object[types.length];
        for (int i = 0; i < types.length && i < told.length; i++) {
            arguments[i] = argument(types[i], told[i]);
        }
        shown.add(call.group(1));
        String want = call.group(3);
        boolean known = findings.containsKey(want) || !Character.isUpperCase(want.charAt(0));
        Check.that("a finding of the table: " + line, known);
        if (known && told.length == types.length) {
            long due = findings.containsKey(want) ? findings.get(want) : Long.parseLong(want);
            Check.due(line, ((Number) method.invoke(x, arguments)).longValue(), due);
        }
    }

    private static Object argument(Class<?> type, String told) {
        if (type == boolean.class) {
            return Boolean.valueOf(told);
        }
        long number = told.startsWith("'") ? told.charAt(1) : Long.decode(told);
        if (type == int.class) {
            return (int) number;
        }
        return number;
    }

    private static void tests(String readme) throws IOException {
        Check.that("README.md says how to run the tests", readme.contains("\n    .ci/run\n"));
        try (Stream<Path> files = Files.list(Path.of("src/test/java"))) {
            for (Path file : files.toList()) {
                String name = file.getFileName().toString().replace(".java", "");
                Check.that("README.md names " + name, !name.endsWith("Test") || readme.contains("`" + name + "`"));
            }
        }
    }
}
