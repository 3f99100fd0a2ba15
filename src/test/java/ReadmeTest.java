import java.io.IOException;
import java.lang.reflect.Method;
import java.nio.charset.StandardCharsets;
import java.nio.file.Files;
import java.nio.file.Path;
import java.util.regex.Matcher;
import java.util.regex.Pattern;

/** That each call which README.md shows answers what stands behind it there. */
public final class ReadmeTest {
    private static final Pattern TEXT = Pattern.compile("for \\(char c : \"([^\"]*)\"\\.toCharArray\\(\\)\\)");
    private static final Pattern CALL = Pattern.compile("x\\.(\\w+)\\(([-\\d, ]*)\\);\\s*// (-?\\d+|NONE|BAD|STATE|FULL)\\b.*");

    public static void main(String[] args) throws IOException, ReflectiveOperationException {
        String readme = Files.readString(Path.of("README.md"), StandardCharsets.UTF_8);
        HoopLane x = new HoopLane();
        int calls = 0;
        Matcher block = Pattern.compile("(?s)```java\n(.*?)```").matcher(readme);
        while (block.find()) {
            for (String line : block.group(1).split("\n")) {
                Matcher text = TEXT.matcher(line);
                if (text.find()) {
                    Due.feed(x, text.group(1));
                } else if (line.startsWith("x.")) {
                    call(x, line);
                    calls++;
                }
            }
        }
        Due.holds("calls of README.md", calls > 0);
        Due.end();
    }

    private static void call(HoopLane x, String line) throws ReflectiveOperationException {
        Matcher call = CALL.matcher(line);
        if (!call.matches()) {
            Due.holds("can be read: " + line, false);
            return;
        }
        String[] words = call.group(2).isEmpty() ? new String[0] : call.group(2).split(", *");
        Object[] arguments = new Object[words.length];
        for (int k = 0; k < words.length; k++) {
            arguments[k] = Integer.valueOf(words[k]);
        }
        long answer = ((Number) named(call.group(1), words.length).invoke(x, arguments)).longValue();
        Due.is(line, due(call.group(3)), answer);
    }

    private static Method named(String name, int parameters) throws NoSuchMethodException {
        for (Method method : HoopLane.class.getMethods()) {
            if (method.getName().equals(name) && method.getParameterCount() == parameters) {
                return method;
            }
        }
        throw new NoSuchMethodException(name + " of " + parameters);
    }

    private static long due(String word) throws ReflectiveOperationException {
        return Character.isUpperCase(word.charAt(0)) ? HoopLane.class.getField(word).getInt(null) : Long.parseLong(word);
    }
}
