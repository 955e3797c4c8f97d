import java.io.IOException;
import java.lang.reflect.Method;
import java.nio.file.Files;
import java.nio.file.Path;
import java.util.HashMap;
import java.util.Map;
import java.util.Set;
import java.util.TreeSet;
import java.util.regex.Matcher;
import java.util.regex.Pattern;

/**
 * The examples of README.md, run as they stand there: each call answers what the comment behind it
 * says, and each call of the face has one.
 */
final class ReadmeTest {
    private static final Pattern CALL =
        Pattern.compile("(?:(?:int|long) (\\w+) = )?x\\.(\\w+)\\(([^)]*)\\); +// (-?\\d+).*");
    private static final Pattern WRITING = Pattern.compile("write\\(x, \"([^\"]*)\"\\);.*");
    private static final Map<String, Method> FACE = new HashMap<>();
    private static final Set<String> SHOWN = new TreeSet<>();

    private static HelperWeave x = new HelperWeave();
    private static final Map<String, Long> NAMED = new HashMap<>();

    private static long number(String word) {
        if (NAMED.containsKey(word)) {
            return NAMED.get(word);
        }
        return word.equals("HelperWeave.NONE") ? HelperWeave.NONE : Long.decode(word.replaceFirst("L$", ""));
    }

    private static Object argument(Class<?> type, String word) {
        if (type == boolean.class) {
            return word.equals("true");
        }
        return type == int.class ? (Object) (int) number(word) : (Object) number(word);
    }

    private static long answer(Method method, String[] words) throws ReflectiveOperationException {
        Class<?>[] types = method.getParameterTypes();
        Object[] arguments = new Object[types.length];
        for (int i = 0; i < types.length; i++) {
            arguments[i] = argument(types[i], words[i]);
        }
        return ((Number) method.invoke(x, arguments)).longValue();
    }

    private static void run(String line) throws ReflectiveOperationException {
        Matcher writing = WRITING.matcher(line);
        Matcher call = CALL.matcher(line);
        if (line.equals("HelperWeave x = new HelperWeave();")) {
            x = new HelperWeave();
            NAMED.clear();
        } else if (writing.matches()) {
            Check.write(x, writing.group(1));
        } else if (call.matches() && FACE.containsKey(call.group(2))) {
            long got = answer(FACE.get(call.group(2)), call.group(3).split(", "));
            Check.due("README.md: " + line, got, Long.parseLong(call.group(4)));
            SHOWN.add(call.group(2));
            if (call.group(1) != null) {
                NAMED.put(call.group(1), got);
            }
        } else {
            Check.due("README.md has a line that is no example: " + line, 0, 1);
        }
    }

    public static void main(String[] args) throws IOException, ReflectiveOperationException {
        for (Method method : HelperWeave.class.getMethods()) {
            if (method.getDeclaringClass() == HelperWeave.class) {
                FACE.put(method.getName(), method);
            }
        }
        boolean inside = false;
        for (String line : Files.readAllLines(Path.of("README.md"))) {
            if (line.startsWith("```")) {
                inside = line.equals("```java");
            } else if (inside && !line.isEmpty()) {
                run(line);
            }
        }
        for (String name : FACE.keySet()) {
            Check.due("README.md shows " + name + "()", SHOWN.contains(name) ? 1 : 0, 1);
        }
        Check.finish("ReadmeTest");
    }
}
