import java.io.IOException;
import java.lang.reflect.InvocationTargetException;
import java.lang.reflect.Method;
import java.lang.reflect.Modifier;
import java.nio.file.Files;
import java.nio.file.Path;
import java.util.HashMap;
import java.util.HashSet;
import java.util.Map;
import java.util.Set;
import java.util.regex.Matcher;
import java.util.regex.Pattern;

/** The examples of README.md answer what stands behind them, and there is one of each call of the face. */
public final class ReadmeTest {
    private static final Checks C = new Checks("ReadmeTest");
    private static final Pattern MAKING = Pattern.compile("Swervewright x = new Swervewright\\(\\);");
    private static final Pattern CALL = Pattern.compile(
            "(?:int (\\w+) = )?x\\.(\\w+)\\(([^)]*)\\);(?:\\s*// (throws \\w+|[-.\\w]+)(?::.*|,)?)?");
    private static final Map<String, Object> NAMES = new HashMap<>();
    private static final Set<String> CALLED = new HashSet<>();
    private static Swervewright made;

    private ReadmeTest() {
    }

    public static void main(String[] args) throws IOException, IllegalAccessException {
        boolean isExample = false;
        for (String line : Files.readAllLines(Path.of("README.md"))) {
            if (line.startsWith("```")) {
                isExample = line.equals("```java");
            } else if (isExample) {
                example(line);
            }
        }
        for (Method method : Swervewright.class.getDeclaredMethods()) {
            boolean isOfFace = Modifier.isPublic(method.getModifiers());
            C.dueTrue("an example of " + method.getName(), !isOfFace || CALLED.contains(method.getName()));
        }
        C.end();
    }

    private static void example(String line) throws IllegalAccessException {
        Matcher call = CALL.matcher(line);
        if (MAKING.matcher(line).matches()) {
            made = new Swervewright();
        } else if (made == null || !call.matches()) {
            C.tell("no call: " + line);
        } else {
            String answer = answer(call.group(1), call.group(2), call.group(3));
            C.dueText(line, answer, call.group(4) == null ? "null" : call.group(4));
        }
    }

    private static String answer(String kept, String name, String told) throws IllegalAccessException {
        CALLED.add(name);
        Object[] arguments = arguments(told);
        Method method = methodOf(name, arguments.length);
        try {
            Object answer = method.invoke(made, arguments);
            if (kept != null) {
                NAMES.put(kept, answer);
            }
            return String.valueOf(answer);
        } catch (InvocationTargetException e) {
            return "throws " + e.getCause().getClass().getSimpleName();
        }
    }

    private static Method methodOf(String name, int parameters) {
        for (Method method : Swervewright.class.getDeclaredMethods()) {
            if (method.getName().equals(name) && method.getParameterCount() == parameters) {
                return method;
            }
        }
        throw new IllegalArgumentException("there is no " + name + " of " + parameters);
    }

    private static Object[] arguments(String told) throws IllegalAccessException {
        String[] words = told.isEmpty() ? new String[0] : told.split(", ");
        Object[] values = new Object[words.length];
        for (int at = 0; at < words.length; at++) {
            values[at] = value(words[at]);
        }
        return values;
    }

    private static Object value(String word) throws IllegalAccessException {
        if (word.equals("true") || word.equals("false")) {
            return word.equals("true");
        }
        if (NAMES.containsKey(word)) {
            return NAMES.get(word);
        }
        if (word.startsWith("Swervewright.")) {
            return constant(word.substring("Swervewright.".length()));
        }
        return Integer.valueOf(word);
    }

    private static Object constant(String name) throws IllegalAccessException {
        for (java.lang.reflect.Field field : Swervewright.class.getFields()) {
            if (field.getName().equals(name)) {
                return field.get(null);
            }
        }
        throw new IllegalArgumentException("there is no constant " + name);
    }
}
