import java.io.IOException;
import java.lang.reflect.InvocationTargetException;
import java.lang.reflect.Method;
import java.lang.reflect.Modifier;
import java.nio.file.Files;
import java.nio.file.Path;
import java.util.Arrays;
import java.util.regex.Matcher;
import java.util.regex.Pattern;

/** The example of README.md, run as it stands there, and that each call is told of. */
public final class ReadmeTests extends Answers {
    private static final Path README = Path.of("README.md");
    private static final Pattern EXAMPLE = Pattern.compile("(?s)```java\\n(.*?)```");
    /** A call with numbers or truth values alone, and the first word of what stands behind it. */
    private static final Pattern CALL = Pattern.compile("x\\.(\\w+)\\((.*?)\\);\\s+// (-?\\w+).*");

    public static void main(String[] args) throws ReflectiveOperationException {
        runTests(ReadmeTests.class, "readme");
    }

    private static Method method(String name) {
        return Arrays.stream(RoundColumns.class.getDeclaredMethods())
                .filter(method -> method.getName().equals(name)).findFirst().orElseThrow();
    }

    private static Object value(Class<?> type, String text) {
        if (type == boolean.class) {
            return Boolean.valueOf(text);
        }
        if (type == long.class) {
            return Long.valueOf(text);
        }
        return Integer.valueOf(text);
    }

    private static String answer(RoundColumns x, String name, String texts)
            throws ReflectiveOperationException {
        Method method = method(name);
        Class<?>[] types = method.getParameterTypes();
        String[] given = texts.isEmpty() ? new String[0] : texts.split(", ");
        Object[] values = new Object[types.length];
        for (int i = 0; i < types.length; i++) {
            values[i] = value(types[i], given[i]);
        }
        try {
            return String.valueOf(method.invoke(x, values));
        } catch (InvocationTargetException e) {
            return e.getCause() instanceof IllegalStateException ? "throws" : "" + e.getCause();
        }
    }

    static void readmeExampleAnswersWhatStandsBehindEachCall()
            throws IOException, ReflectiveOperationException {
        Matcher example = EXAMPLE.matcher(Files.readString(README));
        due("there is an example", example.find(), true);
        RoundColumns x = new RoundColumns();
        String[] lines = example.group(1).split("\\n+");
        due("it begins with a new object", lines[0].endsWith("x = new RoundColumns();"), true);
        for (int i = 1; i < lines.length; i++) {
            Matcher call = CALL.matcher(lines[i]);
            due("this is a call and its answer: " + lines[i], call.matches(), true);
            String got = answer(x, call.group(1), call.group(2));
            due(lines[i] + " answered " + got + "; that", got.equals(call.group(3)), true);
        }
    }

    static void readmeTellsOfEachCall() throws IOException {
        String text = Files.readString(README);
        for (Method method : RoundColumns.class.getDeclaredMethods()) {
            if (Modifier.isPublic(method.getModifiers())) {
                due("it tells of " + method.getName(),
                        text.contains("`" + method.getName() + "("), true);
            }
        }
    }

    static void readmeTellsTheCommandOfTheTests() throws IOException {
        String text = Files.readString(README);
        due("the command stands alone in a line", text.contains("\n    .ci/run\n"), true);
        due("it can be run", Files.isExecutable(Path.of(".ci/run")), true);
        try (var files = Files.list(Path.of("src/test/java"))) {
            files.map(file -> file.getFileName().toString())
                    .filter(name -> name.endsWith("Tests.java"))
                    .map(name -> name.replace(".java", ""))
                    .forEach(name -> due("it tells of " + name,
                            text.contains("`" + name + "`"), true));
        }
    }
}
