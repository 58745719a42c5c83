import java.io.IOException;
import java.lang.reflect.Method;
import java.lang.reflect.Modifier;
import java.nio.charset.StandardCharsets;
import java.nio.file.Files;
import java.nio.file.Path;
import java.util.List;
import java.util.Set;
import java.util.TreeSet;
import java.util.regex.Matcher;
import java.util.regex.Pattern;
import java.util.stream.Stream;

/** What README.md says is so: each call that it shows answers as written, no call and no test is left out. */
public final class ReadmeTest {
    private static final Checks CHECKS = new Checks("ReadmeTest");
    private static final Pattern CALL = Pattern.compile("prints\\.(\\w+)\\(([^)]*)\\); *// (-?\\d+):.*");
    private static final Pattern TESTED = Pattern.compile("\\| `(\\w+Test)` \\|.*");
    private static final Pattern TEXT = Pattern.compile("\\| (\\d), an? \\w+ \\| `(.*)` \\|.*\\|");

    public static void main(String[] args) throws IOException, ReflectiveOperationException {
        List<String> lines = Files.readAllLines(Path.of("README.md"), StandardCharsets.ISO_8859_1);
        calls(lines);
        texts(lines);
        everyCall(String.join("\n", lines));
        everyTest(lines);
        CHECKS.end();
    }

    private static void calls(List<String> lines) throws ReflectiveOperationException {
        PrintsGoOn prints = new PrintsGoOn();
        int found = 0;
        for (String line : lines) {
            Matcher matcher = CALL.matcher(line);
            if (matcher.matches()) {
                found++;
                CHECKS.due(line, answer(prints, matcher.group(1), matcher.group(2)), Long.parseLong(matcher.group(3)));
            }
        }
        CHECKS.due("calls are shown", found > 10, true);
    }

    private static long answer(PrintsGoOn prints, String name, String written) throws ReflectiveOperationException {
        String[] numbers = written.isEmpty() ? new String[0] : written.split(", *");
        for (Method method : PrintsGoOn.class.getMethods()) {
            if (method.getName().equals(name) && method.getParameterCount() == numbers.length) {
                Object[] arguments = new Object[numbers.length];
                for (int i = 0; i < numbers.length; i++) {
                    arguments[i] = Integer.decode(numbers[i]);
                }
                Object answer = method.invoke(prints, arguments);
                return answer instanceof Boolean truth ? truth ? 1 : 0 : ((Integer) answer).longValue();
            }
        }
        throw new IllegalArgumentException("README.md shows a call that there is not: " + name);
    }

    /** In a table a | is written with a \ ahead of it. */
    private static void texts(List<String> lines) {
        int found = 0;
        for (String line : lines) {
            Matcher matcher = TEXT.matcher(line);
            if (matcher.matches()) {
                found++;
                String text = matcher.group(2).replace("\\|", "|");
                int sort = Integer.parseInt(matcher.group(1));
                CHECKS.due("fault of " + text, Checks.faultOf(new PrintsGoOn(), sort, text), PrintsGoOn.NONE);
            }
        }
        CHECKS.due("texts are shown", found, 3);
    }

    private static void everyCall(String page) {
        for (Method method : PrintsGoOn.class.getDeclaredMethods()) {
            if (Modifier.isPublic(method.getModifiers())) {
                CHECKS.due("README.md names " + method.getName(), page.contains("`" + method.getName() + "`"), true);
            }
        }
    }

    private static void everyTest(List<String> lines) throws IOException {
        Set<String> told = new TreeSet<>();
        for (String line : lines) {
            Matcher matcher = TESTED.matcher(line);
            if (matcher.matches()) {
                told.add(matcher.group(1));
            }
        }
        Set<String> there = new TreeSet<>();
        try (Stream<Path> files = Files.list(Path.of("src", "test", "java"))) {
            for (Path file : files.toList()) {
                String name = file.getFileName().toString().replace(".java", "");
                if (name.endsWith("Test")) {
                    there.add(name);
                }
            }
        }
        CHECKS.due("tests told " + told + ", there are " + there, told.equals(there), true);
    }
}
