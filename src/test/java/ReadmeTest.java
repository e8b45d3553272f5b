import java.io.IOException;
import java.lang.reflect.InvocationTargetException;
import java.lang.reflect.Method;
import java.lang.reflect.Modifier;
import java.nio.file.Files;
import java.nio.file.Path;
import java.util.Arrays;
import java.util.List;
import java.util.Set;
import java.util.TreeSet;
import java.util.regex.Matcher;
import java.util.regex.Pattern;
import java.util.stream.Collectors;
import java.util.stream.Stream;

/** README.md, as it stands where .ci/run runs: each call that it shows answers what it says, and each test is named. */
public final class ReadmeTest {
    private static final String MADE = "OrderBench bench = new OrderBench();";
    private static final Pattern CALL = Pattern.compile("bench\\.(\\w+)\\(([^)]*)\\); +// ([-\\w]+)(:.*)?");

    private static int wrong = 0;

    private static void must(boolean holds, String what) {
        if (!holds) {
            wrong++;
            System.out.println("not so: " + what);
        }
    }

    private static Set<String> face() {
        Set<String> names = new TreeSet<>();
        for (Method m : OrderBench.class.getDeclaredMethods()) {
            if (Modifier.isPublic(m.getModifiers())) {
                names.add(m.getName());
            }
        }
        return names;
    }

    private static String answer(OrderBench bench, String name, Object[] given) throws ReflectiveOperationException {
        Class<?>[] types = new Class<?>[given.length];
        Arrays.fill(types, int.class);
        try {
            return String.valueOf(OrderBench.class.getMethod(name, types).invoke(bench, given));
        } catch (InvocationTargetException e) {
            return e.getCause().getClass().getSimpleName();
        }
    }

    private static Object[] numbers(String written) {
        return written.isEmpty() ? new Object[0] : Stream.of(written.split(", ")).map(Integer::valueOf).toArray();
    }

    private static void shownCalls(List<String> lines) throws ReflectiveOperationException {
        int from = lines.indexOf("```java");
        must(from >= 0 && lines.get(from + 1).startsWith(MADE), "what is shown begins with a new object");
        OrderBench bench = new OrderBench();
        Set<String> notShown = face();
        int k = from + 2;
        for (; k < lines.size() && !lines.get(k).equals("```"); k++) {
            Matcher m = CALL.matcher(lines.get(k));
            must(m.matches(), "a call and its answer: " + lines.get(k));
            if (m.matches()) {
                String got = answer(bench, m.group(1), numbers(m.group(2)));
                must(got.equals(m.group(3)), lines.get(k) + " (the class answered " + got + ")");
                notShown.remove(m.group(1));
            }
        }
        must(k < lines.size(), "what is shown has an end");
        must(notShown.isEmpty(), "every call is shown, but for " + notShown);
    }

    private static void namedTests(List<String> lines) throws IOException {
        must(lines.contains("    .ci/run") && Files.isExecutable(Path.of(".ci/run")), "a command runs the tests");
        Set<String> named = new TreeSet<>();
        for (String line : lines) {
            if (line.startsWith("- `") && line.contains("Test`: ")) {
                named.add(line.substring(3, line.indexOf("`: ")) + ".java");
            }
        }
        try (Stream<Path> files = Files.list(Path.of("src/test/java"))) {
            Set<String> there = files.map(f -> f.getFileName().toString()).collect(Collectors.toSet());
            must(named.equals(there), "the tests that are named are those that there are: " + named + ", " + there);
        }
    }

    public static void main(String[] args) throws IOException, ReflectiveOperationException {
        List<String> lines = Files.readAllLines(Path.of("README.md"));
        shownCalls(lines);
        namedTests(lines);
        System.out.println("README.md: " + wrong + " wrong");
        if (wrong != 0) {
            System.exit(1);
        }
    }
}
