import java.io.IOException;
import java.lang.reflect.Method;
import java.lang.reflect.Modifier;
import java.nio.file.Files;
import java.nio.file.Path;
import java.util.List;
import java.util.regex.Matcher;
import java.util.regex.Pattern;
import java.util.stream.Stream;

/** Holds README.md against the class: its calls answer what stands behind them, and nothing is left out. */
public final class ReadmeTest {
    private static final Checks is = new Checks();
    private static final Pattern CALL = Pattern.compile("(?m)^x\\.(\\w+)\\(([^)]*)\\);\\s*// (-?\\d+)");

    public static void main(String[] args) throws IOException, ReflectiveOperationException {
        String readme = Files.readString(Path.of("README.md"));
        examples(readme);
        face(readme);
        tests(readme);
        is.close();
    }

    private static void examples(String readme) throws ReflectiveOperationException {
        DoorsThatRemember x = new DoorsThatRemember();
        int calls = 0;
        for (Matcher m = CALL.matcher(readme); m.find(); calls++) {
            String call = m.group(1) + "(" + m.group(2) + ")";
            is.due("README's " + call, answer(x, m.group(1), m.group(2)), Integer.parseInt(m.group(3)));
        }
        is.due("every call of README is looked at", calls, (int) readme.lines().filter(s -> s.startsWith("x.")).count());
    }

    private static int answer(DoorsThatRemember x, String name, String words) throws ReflectiveOperationException {
        String[] given = words.isEmpty() ? new String[0] : words.split(",\\s*");
        Method method = named(name);
        Class<?>[] types = method.getParameterTypes();
        if (types.length != given.length) {
            throw new IllegalStateException("README gives " + given.length + " numbers to " + method);
        }
        Object[] values = new Object[given.length];
        for (int k = 0; k < given.length; k++) {
            values[k] = value(types[k], given[k]);
        }
        return (Integer) method.invoke(x, values);
    }

    private static Method named(String name) {
        for (Method method : face()) {
            if (method.getName().equals(name)) {
                return method;
            }
        }
        throw new IllegalStateException("README calls " + name + ", which is none of the face");
    }

    private static List<Method> face() {
        return Stream.of(DoorsThatRemember.class.getDeclaredMethods()).filter(m -> Modifier.isPublic(m.getModifiers())).toList();
    }

    private static Object value(Class<?> type, String word) {
        if (type == boolean.class) {
            return Boolean.valueOf(word);
        }
        long number = Long.decode(word.replace("L", ""));
        if (type == int.class) {
            return (int) number;
        }
        return number;
    }

    private static void face(String readme) {
        for (Method method : face()) {
            is.due("README's table has " + method.getName(), readme.contains("`" + method.getName() + "`"));
        }
    }

    private static void tests(String readme) throws IOException {
        try (Stream<Path> files = Files.list(Path.of("src/test/java"))) {
            for (Path file : files.filter(f -> f.toString().endsWith("Test.java")).toList()) {
                String name = file.getFileName().toString().replace(".java", "");
                is.due("README's table has " + name, readme.contains("| `" + name + "` |"));
            }
        }
    }
}
