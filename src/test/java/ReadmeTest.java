import java.io.IOException;
import java.lang.reflect.Method;
import java.nio.file.Files;
import java.nio.file.Path;
import java.util.Map;
import java.util.regex.Matcher;
import java.util.regex.Pattern;

/** The examples of README.md, each call with the answer that stands behind it; and that the page names every call. */
final class ReadmeTest {
    private static final Pattern BLOCK = Pattern.compile("```java\n(.*?)```", Pattern.DOTALL);
    private static final Pattern CALL = Pattern.compile("x\\.(\\w+)\\((.*?)\\);\\s+// (-?\\d+|[A-Z]+)(:.*)?");
    private static final Map<String, Integer> NAMED = Map.of("BAD", EightWires.BAD, "STATE", EightWires.STATE, "FULL",
            EightWires.FULL, "NONE", EightWires.NONE);

    private ReadmeTest() {
    }

    static void all(Path page) throws IOException, ReflectiveOperationException {
        String text = Files.readString(page);
        Matcher block = BLOCK.matcher(text);
        int calls = 0;
        while (block.find()) {
            calls += example(block.group(1));
        }
        Check.due("README.md has examples", calls > 0 ? 1 : 0, 1);
        for (Method method : Both.methods()) {
            boolean named = Pattern.compile("\\b" + method.getName() + "\\(").matcher(text).find();
            Check.due("README.md names " + method.getName(), named ? 1 : 0, 1);
        }
        Check.due("README.md says how the tests are run", text.contains("\n    .ci/run\n") ? 1 : 0, 1);
    }

    private static int example(String lines) throws ReflectiveOperationException {
        EightWires x = null;
        int calls = 0;
        for (String line : lines.split("\n")) {
            Matcher call = CALL.matcher(line);
            if (line.equals("EightWires x = new EightWires();")) {
                x = new EightWires();
            } else if (x != null && call.matches()) {
                calls++;
                Method method = Both.method(call.group(1));
                int due = NAMED.containsKey(call.group(3)) ? NAMED.get(call.group(3)) : Integer.parseInt(call.group(3));
                Check.due("README.md: " + line, (Integer) method.invoke(x, arguments(method, call.group(2))), due);
            } else {
                Check.due("README.md: no call with its answer: " + line, 1, 0);
            }
        }
        return calls;
    }

    private static Object[] arguments(Method method, String told) {
        String[] words = told.isEmpty() ? new String[0] : told.split(", ");
        Object[] arguments = new Object[words.length];
        for (int i = 0; i < words.length; i++) {
            Class<?> type = method.getParameterTypes()[i];
            if (type == boolean.class) {
                arguments[i] = Boolean.valueOf(words[i]);
            } else if (type == long.class) {
                arguments[i] = Long.decode(words[i].replace("L", ""));
            } else {
                arguments[i] = Integer.valueOf(words[i]);
            }
        }
        return arguments;
    }
}
