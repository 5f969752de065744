import java.io.IOException;
import java.lang.reflect.InvocationTargetException;
import java.lang.reflect.Method;
import java.nio.file.Files;
import java.nio.file.Path;
import java.util.List;
import java.util.regex.Matcher;
import java.util.regex.Pattern;
import java.util.stream.Stream;

/** The run of calls in README.md still answers what is written behind each; and README.md tells of every test. */
public final class ReadmeTest {
    private static final String NEW_OBJECT = "    PassedTraits land = new PassedTraits();";
    private static final Pattern CALL =
            Pattern.compile(" {4}land\\.(\\w+)\\(([^)]*)\\); +// (-?[0-9]+|throws [A-Za-z]+): .+");
    private static final int FEWEST_CALLS = 10;

    public static void main(String[] args) throws IOException {
        List<String> lines = Files.readAllLines(Path.of("README.md"));
        theRun(lines);
        everyTest(lines);
        Due.end();
    }

    private static void theRun(List<String> lines) {
        int begin = lines.indexOf(NEW_OBJECT);
        Due.isTrue("README.md makes an object", begin >= 0);
        PassedTraits land = new PassedTraits();
        int calls = 0;
        for (int i = begin + 1; i < lines.size() && lines.get(i).startsWith("    "); i++) {
            Matcher call = CALL.matcher(lines.get(i));
            boolean written = call.matches();
            Due.isTrue("README.md, no call with its answer: " + lines.get(i), written);
            if (written) {
                String got = outcome(land, call.group(1), call.group(2));
                Due.isTrue("README.md: " + lines.get(i) + " answered " + got, got.equals(call.group(3)));
                calls++;
            }
        }
        Due.isTrue("README.md shows " + calls + " calls", calls >= FEWEST_CALLS);
    }

    private static String outcome(PassedTraits land, String name, String written) {
        String[] words = written.isEmpty() ? new String[0] : written.split(", ");
        for (Method method : PassedTraits.class.getMethods()) {
            if (method.getName().equals(name) && method.getParameterCount() == words.length) {
                try {
                    return String.valueOf(method.invoke(land, values(method.getParameterTypes(), words)));
                } catch (InvocationTargetException e) {
                    return "throws " + e.getCause().getClass().getSimpleName();
                } catch (IllegalAccessException e) {
                    throw new IllegalStateException(e);
                }
            }
        }
        return "no such call";
    }

    private static Object[] values(Class<?>[] kinds, String[] words) {
        Object[] values = new Object[words.length];
        for (int i = 0; i < words.length; i++) {
            if (kinds[i] == boolean.class) {
                values[i] = Boolean.valueOf(words[i]);
            } else if (kinds[i] == long.class) {
                values[i] = Long.valueOf(words[i]);
            } else {
                values[i] = Integer.valueOf(words[i]);
            }
        }
        return values;
    }

    private static void everyTest(List<String> lines) throws IOException {
        List<String> names;
        try (Stream<Path> files = Files.list(Path.of("src/test/java"))) {
            names = files.map(file -> file.getFileName().toString()).filter(name -> name.endsWith("Test.java"))
                    .map(name -> name.substring(0, name.length() - ".java".length())).sorted().toList();
        }
        for (String name : names) {
            boolean told = lines.stream().anyMatch(line -> line.startsWith("| " + name + " |"));
            Due.isTrue("README.md does not tell of " + name, told);
        }
        long rows = lines.stream().filter(line -> line.matches("\\| \\w+Test \\|.*")).count();
        Due.equal("tests in the table of README.md", names.size(), rows);
    }
}
