import java.io.IOException;
import java.lang.reflect.Method;
import java.lang.reflect.Modifier;
import java.lang.reflect.Parameter;
import java.nio.file.Files;
import java.nio.file.Path;
import java.util.ArrayList;
import java.util.HashSet;
import java.util.List;
import java.util.Set;
import java.util.TreeSet;
import java.util.regex.Matcher;
import java.util.regex.Pattern;

/** README.md tells every call and every test, and its example answers what stands behind each call. */
public final class ReadmeTest {
    private static final Pattern CALL = Pattern.compile("x\\.(\\w+)\\((.*)\\); {2}// (-?\\d+)(?!\\d).*");
    private static final Pattern ROW = Pattern.compile("(?m)^\\| `(\\w+)\\(([^`]*)\\)` \\|");
    private static final Pattern TEST = Pattern.compile("(?m)^\\| `(\\w+Test)` \\|");

    public static void main(String[] args) throws IOException, ReflectiveOperationException {
        String readme = Files.readString(Path.of("README.md"));
        tellsCalls(readme);
        tellsTests(readme);
        followExample(readme);
        Due.end();
    }

    private static void tellsCalls(String readme) {
        Set<String> told = new TreeSet<>();
        Matcher rows = ROW.matcher(readme);
        while (rows.find()) {
            told.add(rows.group(1) + "(" + rows.group(2).replaceAll("(\\w+) \\w+", "$1").replace(" ", "") + ")");
        }
        Set<String> face = new TreeSet<>(Set.of("FeatherBench()"));
        for (Method m : calls()) {
            List<String> types = new ArrayList<>();
            for (Parameter p : m.getParameters()) {
                types.add(p.getType().getName());
            }
            face.add(m.getName() + "(" + String.join(",", types) + ")");
        }
        Due.same("calls that README.md tells", told.toString(), face.toString());
    }

    private static List<Method> calls() {
        List<Method> calls = new ArrayList<>();
        for (Method m : FeatherBench.class.getDeclaredMethods()) {
            if (Modifier.isPublic(m.getModifiers())) {
                calls.add(m);
            }
        }
        return calls;
    }

    private static void tellsTests(String readme) throws IOException {
        Set<String> told = new TreeSet<>();
        Matcher rows = TEST.matcher(readme);
        while (rows.find()) {
            told.add(rows.group(1));
        }
        Set<String> there = new TreeSet<>();
        try (var files = Files.list(Path.of("src/test/java"))) {
            files.forEach(f -> there.add(f.getFileName().toString().replace(".java", "")));
        }
        Due.same("tests that README.md tells", told.toString(), there.toString());
        Due.same("README.md tells how they are run", readme.contains("`.ci/run`") ? 1 : 0, 1);
    }

    private static void followExample(String readme) throws ReflectiveOperationException {
        int from = readme.indexOf("```java\n") + 8;
        Set<String> used = new HashSet<>();
        FeatherBench x = new FeatherBench();
        for (String line : readme.substring(from, readme.indexOf("```", from)).split("\n")) {
            Matcher call = CALL.matcher(line);
            if (call.matches()) {
                used.add(call.group(1));
                Due.same(line, answer(x, call.group(1), call.group(2)), Integer.parseInt(call.group(3)));
            } else {
                boolean known = line.startsWith("// ") || line.equals("FeatherBench x = new FeatherBench();");
                Due.same("a call with its answer: " + line, known ? 1 : 0, 1);
            }
        }
        for (Method m : calls()) {
            Due.same("the example has " + m.getName(), used.contains(m.getName()) ? 1 : 0, 1);
        }
    }

    private static int answer(FeatherBench x, String name, String args) throws ReflectiveOperationException {
        String[] parts = args.isEmpty() ? new String[0] : args.split(", ");
        for (Method m : calls()) {
            if (m.getName().equals(name) && m.getParameterCount() == parts.length) {
                Object[] values = new Object[parts.length];
                for (int i = 0; i < parts.length; i++) {
                    long value = Long.decode(parts[i].replace("L", ""));
                    values[i] = m.getParameterTypes()[i] == long.class ? (Object) value : (Object) (int) value;
                }
                return (int) m.invoke(x, values);
            }
        }
        return Integer.MIN_VALUE;
    }
}
