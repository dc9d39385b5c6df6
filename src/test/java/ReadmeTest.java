import java.io.IOException;
import java.lang.reflect.Method;
import java.lang.reflect.Modifier;
import java.nio.file.Files;
import java.nio.file.Path;
import java.util.List;
import java.util.Set;
import java.util.TreeSet;
import java.util.regex.Matcher;
import java.util.regex.Pattern;
import java.util.stream.Collectors;
import java.util.stream.Stream;

/** README.md must stay true: its example answers as told, its tables name each call and each test. */
public final class ReadmeTest {
    private static final Path TESTS = Path.of("src/test/java");
    private static final Pattern EXAMPLE = Pattern.compile("x\\.(\\w+)\\((.*?)\\);\\s+// (-?\\d+)\\b.*");
    private static final Pattern CALL_ROW = Pattern.compile("\\| `(\\w+)\\((.*?)\\)` \\|.*");
    private static final Pattern TEST_ROW = Pattern.compile("\\| (\\w+Test) \\|.*");

    public static void main(String[] args) throws ReflectiveOperationException, IOException {
        List<String> lines = Files.readAllLines(Path.of("README.md"));
        theExampleAnswersAsTold(lines);
        eachCallIsNamed(lines);
        eachTestIsNamed(lines);
        Check.end();
    }

    private static void theExampleAnswersAsTold(List<String> lines) throws ReflectiveOperationException {
        WordScales x = new WordScales();
        int asked = 0;
        for (String line : lines) {
            Matcher told = EXAMPLE.matcher(line);
            if (told.matches()) {
                Object answer = methodNamed(told.group(1)).invoke(x, numbers(told.group(2)));
                Check.due(line, ((Number) answer).longValue(), Long.parseLong(told.group(3)));
                asked++;
            }
        }
        long lookingLikeCalls = lines.stream().filter(line -> line.startsWith("x.")).count();
        Check.due("calls of the example that tell an answer", asked, lookingLikeCalls);
        Check.due("the example has calls", asked > 0 ? 1 : 0, 1);
    }

    private static void eachCallIsNamed(List<String> lines) {
        Set<String> calls = faceMethods()
                .map(method -> method.getName() + "/" + method.getParameterCount())
                .collect(Collectors.toCollection(TreeSet::new));
        Set<String> named = new TreeSet<>();
        for (String line : lines) {
            Matcher row = CALL_ROW.matcher(line);
            if (row.matches()) {
                named.add(row.group(1) + "/" + arguments(row.group(2)).length);
            }
        }
        Check.same("calls of the table", named.toString(), calls.toString());
    }

    private static void eachTestIsNamed(List<String> lines) throws IOException {
        Set<String> named = new TreeSet<>();
        for (String line : lines) {
            Matcher row = TEST_ROW.matcher(line);
            if (row.matches()) {
                named.add(row.group(1) + ".java");
            }
        }
        try (Stream<Path> files = Files.list(TESTS)) {
            Set<String> tests = files.map(file -> file.getFileName().toString())
                    .filter(name -> name.endsWith("Test.java"))
                    .collect(Collectors.toCollection(TreeSet::new));
            Check.same("tests of the table", named.toString(), tests.toString());
        }
    }

    private static Stream<Method> faceMethods() {
        return Stream.of(WordScales.class.getDeclaredMethods())
                .filter(method -> Modifier.isPublic(method.getModifiers()));
    }

    private static Method methodNamed(String name) throws NoSuchMethodException {
        return faceMethods().filter(method -> method.getName().equals(name)).findFirst()
                .orElseThrow(() -> new NoSuchMethodException(name));
    }

    private static String[] arguments(String text) {
        return text.isEmpty() ? new String[0] : text.split(", ");
    }

    private static Object[] numbers(String text) {
        return Stream.of(arguments(text))
                .map(argument -> argument.startsWith("'") ? (int) argument.charAt(1) : Integer.parseInt(argument))
                .toArray();
    }
}
