import java.io.IOException;
import java.lang.reflect.Method;
import java.lang.reflect.Modifier;
import java.nio.file.Files;
import java.nio.file.Path;
import java.util.ArrayList;
import java.util.HashMap;
import java.util.List;
import java.util.Map;
import java.util.regex.Matcher;
import java.util.regex.Pattern;
import java.util.stream.Collectors;
import java.util.stream.Stream;

/** README.md is true: its example answers what it says, and it names every call and every test. */
public final class ReadmeTest {
    private static final Checks C = new Checks();
    private static final Pattern CALL_WITH_ANSWER = Pattern.compile(
        "(?:int (\\w+) = )?net\\.(\\w+)\\(([^)]*)\\); +// ([^ :]+)(?:: .*)?");
    private static final Pattern LISTED_TEST = Pattern.compile("\\| (\\w+Test) \\| .* \\|");

    public static void main(String[] args) throws IOException {
        List<String> readme = Files.readAllLines(Path.of("README.md"));
        example(readme);
        calls(readme);
        tests(readme);
        C.end("ReadmeTest");
    }

    private static void example(List<String> readme) {
        Tried tried = new Tried(C, "README.md");
        Map<String, Number> names = new HashMap<>();
        boolean inJava = false;
        for (String line : readme) {
            inJava = line.startsWith("```") ? line.equals("```java") : inJava;
            if (inJava && line.contains("net.")) {
                exampleLine(line, tried, names);
            }
        }
        C.due("the example of README.md makes calls", tried.calls() > 0, true);
    }

    private static void exampleLine(String line, Tried tried, Map<String, Number> names) {
        Matcher told = CALL_WITH_ANSWER.matcher(line);
        if (!told.matches()) {
            C.same("README.md: " + line, "no answer", "a call with its answer");
            return;
        }
        Object due = answer(told.group(4));
        tried.due(due, Call.of(told.group(2), numbers(told.group(3), names)));
        if (told.group(1) != null) {
            names.put(told.group(1), (Number) due);
        }
    }

    private static Object answer(String told) {
        if (told.equals("true") || told.equals("false")) {
            return Boolean.valueOf(told);
        }
        return told.equals("NONE") ? Integer.valueOf(NetShapes.NONE) : number(told);
    }

    private static Number number(String told) {
        if (told.contains(".")) {
            return Double.valueOf(told);
        }
        return Integer.valueOf(told);
    }

    private static Number[] numbers(String told, Map<String, Number> names) {
        List<Number> given = new ArrayList<>();
        for (String one : told.isEmpty() ? new String[0] : told.split(", ")) {
            given.add(names.containsKey(one) ? names.get(one) : number(one));
        }
        return given.toArray(new Number[0]);
    }

    private static void calls(List<String> readme) {
        String rows = readme.stream().filter(line -> line.startsWith("| `"))
            .collect(Collectors.joining("\n"));
        for (Method method : NetShapes.class.getDeclaredMethods()) {
            if (Modifier.isPublic(method.getModifiers())) {
                String given = "\\w+, ".repeat(method.getParameterCount()).replaceAll(", $", "");
                Pattern row = Pattern.compile("`" + method.getName() + "\\(" + given + "\\)`");
                C.due("README.md tells of " + row, row.matcher(rows).find(), true);
            }
        }
    }

    private static void tests(List<String> readme) throws IOException {
        List<String> listed = new ArrayList<>();
        for (String line : readme) {
            Matcher row = LISTED_TEST.matcher(line);
            if (row.matches()) {
                listed.add(row.group(1));
            }
        }
        C.same("README.md lists the tests", sorted(listed.stream()), testFiles());
        C.due(".ci/run can be executed", Files.isExecutable(Path.of(".ci/run")), true);
        C.due("README.md names .ci/run", readme.contains("    .ci/run"), true);
    }

    private static List<String> testFiles() throws IOException {
        try (Stream<Path> files = Files.list(Path.of("src/test/java"))) {
            return sorted(files.map(file -> file.getFileName().toString().replace(".java", ""))
                .filter(name -> name.endsWith("Test")));
        }
    }

    private static List<String> sorted(Stream<String> names) {
        return names.sorted().collect(Collectors.toList());
    }
}
