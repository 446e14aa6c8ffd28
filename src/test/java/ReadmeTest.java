import java.io.IOException;
import java.lang.reflect.Method;
import java.nio.file.Files;
import java.nio.file.Path;
import java.util.HashSet;
import java.util.Set;
import java.util.regex.Matcher;
import java.util.regex.Pattern;

/** README.md says how to use the class: its calls are made one after the other on a new object. */
public final class ReadmeTest {
    private static final Pattern CALL = Pattern.compile("store\\.(\\w+)\\(([^)]*)\\); +// (-?\\w+)\\b.*");

    public static void main(String[] args) throws IOException, ReflectiveOperationException {
        Set<String> called = new HashSet<>();
        BoxedPages store = new BoxedPages();
        for (String line : Files.readAllLines(Path.of("README.md"))) {
            Matcher call = CALL.matcher(line);
            boolean matches = call.matches();
            Checks.due("a call that can be read: " + line, matches, line.startsWith("store."));
            if (matches) {
                called.add(call.group(1));
                Checks.due(line, answer(store, call.group(1), call.group(2)), due(call.group(3)));
            }
        }
        for (Method method : BoxedPages.class.getMethods()) {
            boolean own = method.getDeclaringClass() == BoxedPages.class;
            Checks.due("README.md calls " + method.getName(), called.contains(method.getName()), own);
        }
        Checks.end();
    }

    private static long answer(BoxedPages store, String name, String given) throws ReflectiveOperationException {
        String[] numbers = given.isEmpty() ? new String[0] : given.split(", ");
        Class<?>[] types = new Class<?>[numbers.length];
        Object[] values = new Object[numbers.length];
        for (int i = 0; i < numbers.length; i++) {
            types[i] = int.class;
            values[i] = Integer.valueOf(numbers[i]);
        }
        Object got = BoxedPages.class.getMethod(name, types).invoke(store, values);
        return got instanceof Boolean yes ? (yes ? 1L : 0L) : ((Number) got).longValue();
    }

    private static long due(String told) throws ReflectiveOperationException {
        return switch (told) {
            case "true" -> 1L;
            case "false" -> 0L;
            case "BAD", "FULL", "DOWN", "LOST", "NONE" -> BoxedPages.class.getField(told).getInt(null);
            default -> Long.parseLong(told);
        };
    }
}
