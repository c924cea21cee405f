import java.io.IOException;
import java.lang.reflect.Method;
import java.lang.reflect.Modifier;
import java.nio.file.Files;
import java.nio.file.Path;
import java.util.Set;
import java.util.TreeSet;
import java.util.regex.Matcher;
import java.util.regex.Pattern;

/** README.md: its calls, one after the other on one object, answer what it says; it names each call and test. */
public final class ReadmeTest {
    private static final Path README = Path.of("README.md");
    private static final Path TESTS = Path.of("src/test/java");
    private static final Pattern CALL = Pattern.compile("x\\.(\\w+)\\(([^)]*)\\); +// (-?\\d+)\\b.*");
    private static final Due due = new Due();

    public static void main(String[] args) throws IOException, ReflectiveOperationException {
        String text = Files.readString(README);
        due.holds("README.md says how to run the tests", text.contains("bash .ci/run"));
        Set<String> called = new TreeSet<>();
        ThinTables x = new ThinTables();
        for (String line : text.split("\n")) {
            if (line.startsWith("x.")) {
                called.add(ask(x, line));
            }
        }
        for (Method method : ThinTables.class.getDeclaredMethods()) {
            due.holds("README.md shows no call of " + method.getName(),
                    !Modifier.isPublic(method.getModifiers()) || called.contains(method.getName()));
        }
        testsAreNamed(text);
        due.end();
    }

    /** Makes the call of a line; answers its name. */
    private static String ask(ThinTables x, String line) throws ReflectiveOperationException {
        Matcher call = CALL.matcher(line);
        due.holds("no call with an answer: " + line, call.matches());
        if (!call.matches()) {
            return "";
        }
        String[] numbers = call.group(2).isEmpty() ? new String[0] : call.group(2).split(", ");
        Class<?>[] types = new Class<?>[numbers.length];
        Object[] values = new Object[numbers.length];
        for (int k = 0; k < numbers.length; k++) {
            types[k] = int.class;
            values[k] = Integer.valueOf(numbers[k]);
        }
        Object answer = ThinTables.class.getMethod(call.group(1), types).invoke(x, values);
        due.is(line, ((Number) answer).longValue(), Long.parseLong(call.group(3)));
        return call.group(1);
    }

    private static void testsAreNamed(String text) throws IOException {
        try (var files = Files.list(TESTS)) {
            for (Path file : (Iterable<Path>) files.filter(Files::isRegularFile)::iterator) {
                due.holds("README.md does not name " + file, text.contains("`" + file + "`"));
            }
        }
    }
}
