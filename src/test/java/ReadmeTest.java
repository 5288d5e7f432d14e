import java.io.IOException;
import java.lang.reflect.Method;
import java.nio.file.Files;
import java.nio.file.Path;
import java.util.regex.Matcher;
import java.util.regex.Pattern;

/** Every call in README.md is answered as README.md says. */
public final class ReadmeTest {
    private static final String NEW_OBJECT = "SightChart x = new SightChart();";
    private static final Pattern CALL = Pattern.compile("x\\.(\\w+)\\(([^)]*)\\); +// (-?\\d+)( .*)?");
    private static final Due DUE = new Due("ReadmeTest");

    public static void main(String[] args) throws IOException, ReflectiveOperationException {
        Matcher blocks = Pattern.compile("(?s)```java\n(.*?)```").matcher(Files.readString(Path.of("README.md")));
        int found = 0;
        while (blocks.find()) {
            run(blocks.group(1).split("\n"));
            found++;
        }
        DUE.is("runs of calls in README.md", found, 2);
        DUE.end();
    }

    private static void run(String[] lines) throws ReflectiveOperationException {
        SightChart x = null;
        for (String line : lines) {
            if (line.isBlank()) continue;
            if (line.equals(NEW_OBJECT)) {
                x = new SightChart();
                continue;
            }
            Matcher call = CALL.matcher(line);
            boolean readable = x != null && call.matches();
            DUE.is("a call and its answer: " + line, readable ? 1 : 0, 1);
            if (readable) DUE.is(line, answer(x, call.group(1), call.group(2)), Long.parseLong(call.group(3)));
        }
    }

    private static long answer(SightChart x, String name, String arguments) throws ReflectiveOperationException {
        for (Method m : SightChart.class.getMethods()) {
            if (!m.getName().equals(name) || m.getDeclaringClass() != SightChart.class) continue;
            String[] words = arguments.isBlank() ? new String[0] : arguments.split(", ");
            Object[] values = new Object[words.length];
            for (int i = 0; i < words.length; i++) values[i] = value(words[i], m.getParameterTypes()[i]);
            return ((Number) m.invoke(x, values)).longValue();
        }
        throw new NoSuchMethodException(name);
    }

    private static Object value(String word, Class<?> type) {
        return type == boolean.class ? (Object) Boolean.valueOf(word) : (Object) Integer.valueOf(word);
    }
}
