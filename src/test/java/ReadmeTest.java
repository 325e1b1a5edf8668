import java.io.IOException;
import java.lang.reflect.InvocationTargetException;
import java.lang.reflect.Method;
import java.lang.reflect.Modifier;
import java.nio.file.Files;
import java.nio.file.Path;
import java.util.regex.Matcher;
import java.util.regex.Pattern;
import java.util.stream.Stream;

/** README.md: its examples answer what it says, and it tells of every call and every test. */
public final class ReadmeTest {
    private static final Pattern EXAMPLE = Pattern.compile("(?m)^s\\.(\\w+)\\((.*?)\\); +// (-?\\d+)\\b");

    private ReadmeTest() {
    }

    public static void main(String[] args) throws IOException, ReflectiveOperationException {
        String page = Files.readString(Path.of("README.md"));
        examples(page);
        calls(page);
        tests(page);
        Checks.end("ReadmeTest");
    }

    private static void examples(String page) throws ReflectiveOperationException {
        StraightSteps s = new StraightSteps();
        Matcher example = EXAMPLE.matcher(page);
        int seen = 0;
        while (example.find()) {
            int got = ask(s, example.group(1), example.group(2));
            Checks.same(example.group(), got, Integer.parseInt(example.group(3)));
            seen++;
        }
        Checks.same("examples", seen, page.lines().filter(line -> line.startsWith("s.")).count());
        Checks.holds("some examples", seen > 10);
    }

    private static int ask(StraightSteps s, String name, String words)
            throws IllegalAccessException, InvocationTargetException {
        String[] given = words.isEmpty() ? new String[0] : words.split(", ");
        Method method = called(name);
        Checks.same("arguments of " + name, given.length, method.getParameterCount());
        Object[] arguments = new Object[given.length];
        for (int i = 0; i < given.length; i++) {
            boolean number = method.getParameterTypes()[i] == int.class;
            arguments[i] = number ? (Object) Integer.valueOf(given[i]) : Boolean.valueOf(given[i]);
        }
        return (Integer) method.invoke(s, arguments);
    }

    private static Method called(String name) {
        for (Method method : StraightSteps.class.getDeclaredMethods()) {
            if (method.getName().equals(name)) {
                return method;
            }
        }
        throw new IllegalArgumentException("README.md calls " + name);
    }

    private static void calls(String page) {
        for (Method method : StraightSteps.class.getDeclaredMethods()) {
            if (Modifier.isPublic(method.getModifiers())) {
                Checks.holds(method.getName() + " is in a table", page.contains("\n| `" + method.getName() + "("));
            }
        }
    }

    private static void tests(String page) throws IOException {
        try (Stream<Path> files = Files.list(Path.of("src/test/java"))) {
            for (Path file : files.toList()) {
                String name = file.getFileName().toString().replace(".java", "");
                if (name.endsWith("Test")) {
                    Checks.holds(name + " is in the table", page.contains("\n| `" + name + "` |"));
                }
            }
        }
    }
}
