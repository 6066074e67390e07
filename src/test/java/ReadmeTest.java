import java.io.IOException;
import java.lang.reflect.InvocationTargetException;
import java.lang.reflect.Method;
import java.lang.reflect.Modifier;
import java.nio.file.Files;
import java.nio.file.Path;
import java.util.List;
import java.util.Set;
import java.util.TreeSet;
import java.util.regex.Matcher;
import java.util.regex.Pattern;

/** README.md's example, line by line: each call answers what stands behind it, and every method is called. */
public final class ReadmeTest {
    private static final Path README = Path.of("README.md");
    private static final String MAKING = "HeavyRoutes net = new HeavyRoutes();";
    private static final Pattern CALL = Pattern.compile("net\\.(\\w+)\\((.*)\\); +// (-?\\w+)(: .*)?");
    private static final Check CHECK = new Check();
    private static final Set<String> CALLED = new TreeSet<>();
    private static HeavyRoutes net;

    public static void main(String[] args) throws IOException, ReflectiveOperationException {
        List<String> example = example(Files.readAllLines(README));
        for (String line : example) {
            follow(line);
        }
        CHECK.due("the example is within 512 calls", example.size() <= 512, true);
        CHECK.due("methods that the example calls " + CALLED, CALLED.equals(methodsOfTheFace()), true);
        CHECK.end("ReadmeTest");
    }

    /** What stands between the first line that opens Java code and the next one that ends it. */
    private static List<String> example(List<String> readme) {
        int begin = readme.indexOf("```java");
        int length = begin < 0 ? -1 : readme.subList(begin, readme.size()).indexOf("```");
        return length < 0 ? List.of() : readme.subList(begin + 1, begin + length);
    }

    private static void follow(String line) throws ReflectiveOperationException {
        Matcher call = CALL.matcher(line);
        if (line.equals(MAKING)) {
            net = new HeavyRoutes();
        } else if (call.matches() && net != null) {
            CALLED.add(call.group(1));
            CHECK.due(line, answer(call.group(1), call.group(2)), number(call.group(3)));
        } else {
            CHECK.due("a line that is a call, a comment or empty: " + line, line.isEmpty() || line.startsWith("//"), true);
        }
    }

    private static long answer(String name, String arguments) throws ReflectiveOperationException {
        String[] texts = arguments.isEmpty() ? new String[0] : arguments.split(", ");
        Method method = method(name, texts.length);
        Object[] values = new Object[texts.length];
        for (int i = 0; i < texts.length; i++) {
            values[i] = value(texts[i], method.getParameterTypes()[i]);
        }
        try {
            return number(method.invoke(net, values).toString());
        } catch (InvocationTargetException thrown) {
            throw new IllegalStateException(name + " has thrown", thrown.getCause());
        }
    }

    private static Method method(String name, int parameters) throws NoSuchMethodException {
        for (Method method : HeavyRoutes.class.getDeclaredMethods()) {
            if (isOfTheFace(method) && method.getName().equals(name) && method.getParameterCount() == parameters) {
                return method;
            }
        }
        throw new NoSuchMethodException(name + " with " + parameters + " parameters");
    }

    private static Object value(String text, Class<?> type) {
        if (type == boolean.class) {
            CHECK.due(text + " is true or false", text.equals("true") || text.equals("false"), true);
            return Boolean.valueOf(text);
        }
        return type == long.class ? (Object) Long.valueOf(text) : (Object) Integer.valueOf(text);
    }

    /** A boolean counts 1 or 0. */
    private static long number(String text) {
        return switch (text) {
            case "BAD" -> HeavyRoutes.BAD;
            case "NONE" -> HeavyRoutes.NONE;
            case "true" -> 1;
            case "false" -> 0;
            default -> Long.parseLong(text);
        };
    }

    private static Set<String> methodsOfTheFace() {
        Set<String> names = new TreeSet<>();
        for (Method method : HeavyRoutes.class.getDeclaredMethods()) {
            if (isOfTheFace(method)) {
                names.add(method.getName());
            }
        }
        return names;
    }

    private static boolean isOfTheFace(Method method) {
        return Modifier.isPublic(method.getModifiers());
    }
}
