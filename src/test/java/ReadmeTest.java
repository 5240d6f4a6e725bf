import java.lang.reflect.Field;
import java.lang.reflect.Method;
import java.lang.reflect.Modifier;
import java.nio.file.Files;
import java.nio.file.Path;
import java.util.Set;
import java.util.TreeSet;
import java.util.regex.Matcher;
import java.util.regex.Pattern;

/** README.md says how to use the class: its runs answer as they say, and no call or refusal is missing. */
public final class ReadmeTest {
    private static final Check CHECK = new Check("readme");
    private static final Pattern RUN = Pattern.compile("(?s)```java\n(.*?)```");
    private static final Pattern CALL = Pattern.compile("house\\.(\\w+)\\(([^)]*)\\); *// (-?\\d+): .+");
    private static final String NEW_HOUSE = "OneOfEach house = new OneOfEach();";

    private final Set<String> called = new TreeSet<>();

    public static void main(String[] args) throws Exception {
        String page = Files.readString(Path.of("README.md"));
        ReadmeTest test = new ReadmeTest();
        Matcher run = RUN.matcher(page);
        while (run.find()) {
            test.makeRun(run.group(1));
        }
        test.noCallIsMissing();
        noRefusalIsMissing(page);
        CHECK.end();
    }

    private void makeRun(String lines) throws Exception {
        OneOfEach house = null;
        for (String line : lines.split("\n")) {
            if (line.equals(NEW_HOUSE)) {
                house = new OneOfEach();
            } else if (!line.isBlank() && !line.startsWith("//")) {
                Matcher call = CALL.matcher(line);
                boolean plain = call.matches() && house != null;
                CHECK.holds("a call and its answer: " + line, plain);
                if (plain) {
                    CHECK.due(line, answer(house, call.group(1), call.group(2)), Long.parseLong(call.group(3)));
                }
            }
        }
    }

    private long answer(OneOfEach house, String name, String numbers) throws Exception {
        called.add(name);
        String[] texts = numbers.isBlank() ? new String[0] : numbers.split(", ");
        for (Method method : OneOfEach.class.getMethods()) {
            if (method.getName().equals(name) && method.getParameterCount() == texts.length) {
                Object[] values = new Object[texts.length];
                for (int i = 0; i < values.length; i++) {
                    long value = number(texts[i]);
                    // A number that does not fit into an int would not compile where an int is asked for.
                    values[i] = method.getParameterTypes()[i] == long.class ? (Object) value : (Object) Math.toIntExact(value);
                }
                return ((Number) method.invoke(house, values)).longValue();
            }
        }
        throw new IllegalStateException("no call " + name + " with " + texts.length + " numbers");
    }

    private static long number(String text) {
        String digits = text.endsWith("L") ? text.substring(0, text.length() - 1) : text;
        if (digits.startsWith("0b")) return Long.parseLong(digits.substring(2), 2);
        return Long.decode(digits);
    }

    private void noCallIsMissing() {
        for (Method method : OneOfEach.class.getDeclaredMethods()) {
            if (Modifier.isPublic(method.getModifiers())) {
                CHECK.holds(method.getName() + " is shown", called.contains(method.getName()));
            }
        }
    }

    private static void noRefusalIsMissing(String page) throws Exception {
        for (Field field : OneOfEach.class.getFields()) {
            CHECK.holds(field.getName() + " is told", page.contains("| `" + field.getName() + "` | " + field.getInt(null) + " |"));
        }
    }
}
