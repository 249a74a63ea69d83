import java.io.IOException;
import java.lang.reflect.Field;
import java.lang.reflect.Method;
import java.nio.file.Files;
import java.nio.file.Path;
import java.util.HashMap;
import java.util.HashSet;
import java.util.Map;
import java.util.Set;
import java.util.regex.Matcher;
import java.util.regex.Pattern;

/** Does the example of the README line by line, and compares the answers that stand there. */
public final class ReadmeTest {
    private static final Pattern CALL = Pattern.compile(
            "(?:int (\\w+) = )?homes\\.(\\w+)\\((.*)\\); +// (-?\\d+|[A-Z_]+)(?::.*)?");
    private static final Pattern TYPING = Pattern.compile("for \\(char \\w+ : \"(.*)\"\\.toCharArray.*");

    private static final HopHomes HOMES = new HopHomes();
    private static final Map<String, Integer> NAMES = new HashMap<>();
    private static final Set<String> CALLED = new HashSet<>();

    public static void main(String[] args) throws IOException, ReflectiveOperationException {
        String readme = Files.readString(Path.of("README.md"));
        int start = readme.indexOf("```java\n");
        int end = readme.indexOf("```\n", start + 1);
        Check.holds("there is an example", start >= 0 && end > start);
        String[] lines = readme.substring(start, end).split("\n");
        Check.due("the first line", lines[1].equals("HopHomes homes = new HopHomes();") ? 1 : 0, 1);
        for (int i = 2; i < lines.length; i++) {
            Matcher typing = TYPING.matcher(lines[i]);
            if (typing.matches()) {
                Check.type(HOMES, typing.group(1));
                i += 2;
            } else if (!lines[i].isEmpty()) {
                call(lines[i]);
            }
        }
        Check.holds("most methods are called: " + CALLED, CALLED.size() > 15);
        // Each method of the face is named in the README, also those that the example has not.
        for (Method method : HopHomes.class.getDeclaredMethods()) {
            if (java.lang.reflect.Modifier.isPublic(method.getModifiers())) {
                Check.holds(method.getName() + " stands in the README",
                        readme.contains("`" + method.getName() + "`"));
            }
        }
        Check.end();
    }

    private static void call(String line) throws ReflectiveOperationException {
        Matcher call = CALL.matcher(line);
        Check.holds("a call with its answer: " + line, call.matches());
        int answer = invoke(call.group(2), call.group(3));
        Check.due(line, answer, valueOf(call.group(4)));
        if (call.group(1) != null) {
            NAMES.put(call.group(1), answer);
        }
    }

    private static int invoke(String name, String told) throws ReflectiveOperationException {
        String[] texts = told.isEmpty() ? new String[0] : told.split(", ");
        for (Method method : HopHomes.class.getDeclaredMethods()) {
            if (method.getName().equals(name) && method.getParameterCount() == texts.length) {
                Object[] arguments = new Object[texts.length];
                for (int i = 0; i < texts.length; i++) {
                    arguments[i] = argument(method.getParameterTypes()[i], texts[i]);
                }
                CALLED.add(name);
                return (int) method.invoke(HOMES, arguments);
            }
        }
        throw new NoSuchMethodException(name);
    }

    private static Object argument(Class<?> type, String text) throws ReflectiveOperationException {
        if (type == boolean.class) {
            return text.equals("true");
        }
        if (type == char.class) {
            return text.charAt(1);
        }
        return NAMES.containsKey(text) ? NAMES.get(text) : (Object) valueOf(text);
    }

    private static int valueOf(String text) throws ReflectiveOperationException {
        if (text.matches("-?\\d+")) {
            return Integer.parseInt(text);
        }
        Field constant = HopHomes.class.getField(text);
        return constant.getInt(null);
    }
}
