import java.io.IOException;
import java.lang.reflect.InvocationTargetException;
import java.lang.reflect.Method;
import java.nio.file.Files;
import java.nio.file.Path;
import java.util.Arrays;
import java.util.List;
import java.util.Set;
import java.util.TreeSet;
import java.util.regex.Matcher;
import java.util.regex.Pattern;
import java.util.stream.Collectors;
import java.util.stream.Stream;

/** README.md: its example, its table of the calls, and its table of the tests. */
public final class ReadmeTest {
    private static final Checks CHECKS = new Checks();
    private static final int PROMISES = 24;
    private static final Pattern STEP =
            Pattern.compile("yard\\.(\\w+)\\(([-\\d, ]*)\\); *// "
                    + "(?:(throws \\w+|NONE|\\d+)(?:: .*)?|[a-z].*)");
    private static final Pattern SIGNATURE =
            Pattern.compile("(?:int|void) (\\w+)\\(([^)]*)\\)(?: throws (.*))?");

    private ReadmeTest() {
    }

    public static void main(String[] args) throws IOException, ReflectiveOperationException {
        List<String> readme = Files.readAllLines(Path.of("README.md"));
        Document document = new Document();
        Set<String> shown = example(readme);
        for (int promise = 2; promise <= PROMISES; promise++) {
            Matcher signature = SIGNATURE.matcher(document.signature(promise));
            CHECKS.due("signature of promise " + promise, signature.matches() ? 1 : 0, 1);
            String name = signature.group(1);
            CHECKS.due(name + " stands in the example", shown.contains(name) ? 1 : 0, 1);
            call(readme, signature, document.lines("Promise " + promise));
        }
        tests(readme);
        CHECKS.end("ReadmeTest");
    }

    // ---- the example

    /** Makes the example's calls on both yards; answers the names of the calls. */
    private static Set<String> example(List<String> readme) throws ReflectiveOperationException {
        Object yard = new FormworkYard();
        Object naive = new NaiveYard();
        Set<String> shown = new TreeSet<>();
        for (String line : readme) {
            if (line.startsWith("yard.")) {
                Matcher step = STEP.matcher(line);
                CHECKS.due("calls in \"" + line + "\"", step.matches() ? 1 : 0, 1);
                shown.add(step.group(1));
                CHECKS.same(line, answer(yard, step), told(step.group(3)));
                CHECKS.same(line + " of NaiveYard", answer(naive, step), told(step.group(3)));
            }
        }
        return shown;
    }

    private static String told(String answer) {
        return answer == null ? "nothing" : answer.replace("NONE", "-1");
    }

    private static String answer(Object yard, Matcher step) throws ReflectiveOperationException {
        String told = step.group(2);
        Object[] arguments = told.isEmpty() ? new Object[0]
                : Arrays.stream(told.split(", ")).map(Integer::valueOf).toArray();
        Class<?>[] types = new Class<?>[arguments.length];
        Arrays.fill(types, int.class);
        Method call = yard.getClass().getDeclaredMethod(step.group(1), types);
        try {
            Object got = call.invoke(yard, arguments);
            return got == null ? "nothing" : got.toString();
        } catch (InvocationTargetException thrown) {
            return "throws " + thrown.getCause().getClass().getSimpleName();
        }
    }

    // ---- the calls

    /** Looks at a call's row: its parameters, what they may be, and its exceptions in their order. */
    private static void call(List<String> readme, Matcher signature, List<String> promise) {
        String call = signature.group(1) + "(" + signature.group(2).replace("int ", "") + ")";
        String row = row(readme, call);
        for (String line : promise) {
            if (line.startsWith("- `")) {
                String range = line.replaceFirst("^- (`\\w+`): (?:.*, )?", "$1 ");
                CHECKS.due("places of " + range + " at " + call, row.contains(range) ? 1 : 0, 1);
            }
        }
        String thrown = signature.group(3) == null ? "" : Stream.of(signature.group(3).split(", "))
                .map(name -> "`" + name.replace("java.util.", "") + "`")
                .collect(Collectors.joining(", "));
        CHECKS.same("exceptions of " + call, row.replaceFirst("^\\|.*\\|(.*)\\|$", "$1").trim(), thrown);
    }

    private static String row(List<String> readme, String first) {
        List<String> rows = readme.stream().filter(line -> line.startsWith("| `" + first + "` |"))
                .collect(Collectors.toList());
        CHECKS.due("rows of " + first, rows.size(), 1);
        return rows.isEmpty() ? "" : rows.get(0);
    }

    // ---- the tests

    private static void tests(List<String> readme) throws IOException {
        CHECKS.due("lines that say how to run the tests", readme.contains("    .ci/run") ? 1 : 0, 1);
        try (Stream<Path> files = Files.list(Path.of("src/test/java"))) {
            files.map(file -> file.getFileName().toString()).filter(name -> name.endsWith("Test.java"))
                    .forEach(name -> row(readme, name.replace(".java", "")));
        }
    }
}
