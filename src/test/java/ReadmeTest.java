import java.io.IOException;
import java.lang.reflect.Method;
import java.nio.file.DirectoryStream;
import java.nio.file.Files;
import java.nio.file.Path;
import java.util.Arrays;
import java.util.Set;
import java.util.TreeSet;
import java.util.regex.Matcher;
import java.util.regex.Pattern;

/** What README.md shows: the calls of its examples have the answers behind them, and no call and no test is missing. */
final class ReadmeTest {
    private static final Pattern CALL = Pattern.compile("m\\.(\\w+)\\(([-0-9, ]*)\\); *(?:// (-?\\w+)(?:: .*)?)?");
    private static final Checks checks = new Checks();

    private final Set<String> shown = new TreeSet<>();
    private ViewMediator m;
    private int calls;

    public static void main(String[] args) throws IOException, ReflectiveOperationException {
        String readme = Files.readString(Path.of("README.md"));
        new ReadmeTest().runExamples(readme);
        everyTestIsNamed(readme);
        checks.end();
    }

    private void runExamples(String readme) throws ReflectiveOperationException {
        boolean inExample = false;
        for (String line : readme.split("\n")) {
            if (line.startsWith("```")) {
                inExample = line.equals("```java");
            } else if (inExample) {
                runLine(line);
            }
        }
        checks.due("calls of the examples, at most 512", calls <= 512, true);
        Set<String> face = new TreeSet<>();
        for (Method method : ViewMediator.class.getMethods()) {
            if (method.getDeclaringClass() == ViewMediator.class) {
                face.add(method.getName());
            }
        }
        checks.due("calls that the examples show", shown, face);
    }

    private void runLine(String line) throws ReflectiveOperationException {
        if (line.equals("ViewMediator m = new ViewMediator();")) {
            m = new ViewMediator();
            return;
        }
        Matcher call = CALL.matcher(line);
        checks.due("line of an example: " + line, call.matches(), true);
        if (call.matches()) {
            calls++;
            shown.add(call.group(1));
            checks.due(line, answer(call.group(1), call.group(2)), due(call.group(3)));
        }
    }

    private String answer(String name, String list) throws ReflectiveOperationException {
        Object[] numbers = Arrays.stream(list.split(",")).map(String::trim).filter(text -> !text.isEmpty())
                .map(Integer::valueOf).toArray();
        Class<?>[] types = new Class<?>[numbers.length];
        Arrays.fill(types, int.class);
        return String.valueOf(ViewMediator.class.getMethod(name, types).invoke(m, numbers));
    }

    /** What stands behind a call; a call without an answer has nothing there, and no other may leave it out. */
    private static String due(String told) throws ReflectiveOperationException {
        if (told != null && told.matches("[A-Z]+")) {
            return String.valueOf(ViewMediator.class.getField(told).getInt(null));
        }
        return String.valueOf(told);
    }

    private static void everyTestIsNamed(String readme) throws IOException {
        try (DirectoryStream<Path> tests = Files.newDirectoryStream(Path.of("src/test/java"), "*Test.java")) {
            for (Path test : tests) {
                String name = test.getFileName().toString().replace(".java", "");
                checks.due("README.md names " + name, readme.contains("`" + name + "`"), true);
            }
        }
    }
}
