import java.io.IOException;
import java.lang.reflect.Method;
import java.lang.reflect.Modifier;
import java.nio.charset.StandardCharsets;
import java.nio.file.Files;
import java.nio.file.Path;
import java.util.regex.Matcher;
import java.util.regex.Pattern;

/** The calls in README.md, one behind the other, are answered as it says; it names every call of the class. */
public final class ReadmeTest {
    private static final Check CHECK = new Check();
    private static final Pattern BLOCK = Pattern.compile("(?s)```java\n(.*?)```");
    private static final Pattern CALL = Pattern.compile("hill\\.(\\w+)\\(([-\\d, ]*)\\); +// (-?\\d+)(:.*)?");
    private static final Pattern FED = Pattern.compile("feed\\(hill, \"([^\"]*)\"\\);");

    private ReadmeTest() {
    }

    public static void main(String[] args) throws IOException, ReflectiveOperationException {
        String text = Files.readString(Path.of("README.md"), StandardCharsets.UTF_8);
        calls(text);
        names(text);
        CHECK.end();
    }

    private static void calls(String text) throws ReflectiveOperationException {
        FortyGates hill = new FortyGates();
        int calls = 0;
        Matcher blocks = BLOCK.matcher(text);
        while (blocks.find()) {
            for (String line : blocks.group(1).split("\n")) {
                Matcher call = CALL.matcher(line);
                Matcher fed = FED.matcher(line);
                if (call.matches()) {
                    calls++;
                    CHECK.due(line, answer(hill, call.group(1), call.group(2)), Long.parseLong(call.group(3)));
                } else if (fed.matches()) {
                    Scene.feed(hill, fed.group(1));
                } else {
                    CHECK.so("a line that is not looked at: " + line,
                            !line.contains("hill") || line.equals("FortyGates hill = new FortyGates();"));
                }
            }
        }
        CHECK.so("calls looked at: " + calls, calls >= 60);
    }

    private static long answer(FortyGates hill, String name, String numbers) throws ReflectiveOperationException {
        String[] parts = numbers.isEmpty() ? new String[0] : numbers.split(", ");
        Object[] values = new Object[parts.length];
        Class<?>[] types = new Class<?>[parts.length];
        for (int i = 0; i < parts.length; i++) {
            values[i] = Integer.parseInt(parts[i]);
            types[i] = int.class;
        }
        return ((Number) FortyGates.class.getMethod(name, types).invoke(hill, values)).longValue();
    }

    private static void names(String text) {
        for (Method method : FortyGates.class.getDeclaredMethods()) {
            if (Modifier.isPublic(method.getModifiers())) {
                CHECK.so("README.md names " + method.getName(), text.contains("`" + method.getName() + "("));
            }
        }
    }
}
