import java.lang.reflect.InvocationTargetException;
import java.lang.reflect.Method;
import java.lang.reflect.Modifier;
import java.nio.file.Files;
import java.nio.file.Path;
import java.util.ArrayList;
import java.util.List;
import java.util.Set;
import java.util.TreeSet;
import java.util.regex.Matcher;
import java.util.regex.Pattern;

/** README.md: each call of its examples answers what stands behind it, and its table has the whole face. */
public final class ReadmeTest {
    private static final Pattern CALL = Pattern.compile("log\\.(\\w+)\\((.*?)\\); +// (-?\\d+|throws \\w+): .+");
    private static final Pattern ROW = Pattern.compile("\\| `(\\w+)\\((.*?)\\)` \\| .+? \\| ?([a-z, ]*?) ?\\|");

    public static void main(String[] args) throws Exception {
        boolean inside = false;
        TakeLog log = null;
        Set<String> rows = new TreeSet<>();
        for (String line : Files.readAllLines(Path.of("README.md"))) {
            Matcher row = ROW.matcher(line);
            if (line.startsWith("```")) {
                inside = line.equals("```java");
            } else if (inside && line.equals("TakeLog log = new TakeLog();")) {
                log = new TakeLog();
            } else if (inside) {
                example(log, line);
            } else if (row.matches()) {
                rows.add(row.group(1) + " " + count(row.group(2)) + " " + row.group(3));
            }
        }
        Check.due("the table of README.md", rows.toString(), face().toString());
        Check.end("ReadmeTest");
    }

    private static void example(TakeLog log, String line) throws Exception {
        Matcher call = CALL.matcher(line);
        boolean good = call.matches();
        Check.due("README.md has a call in: " + line, good ? 1 : 0, 1);
        if (good) {
            Check.due(line, answer(log, call.group(1), call.group(2)), call.group(3));
        }
    }

    private static String answer(TakeLog log, String name, String arguments) throws Exception {
        Method method = method(name);
        Class<?>[] types = method.getParameterTypes();
        Object[] values = new Object[types.length];
        String[] words = arguments.split(", ");
        for (int k = 0; k < types.length; k++) {
            values[k] = value(types[k], words[k]);
        }
        try {
            return method.invoke(log, values).toString();
        } catch (InvocationTargetException e) {
            return "throws " + e.getCause().getClass().getSimpleName();
        }
    }

    private static Object value(Class<?> type, String word) {
        if (type == boolean.class) {
            return Boolean.valueOf(word);
        }
        if (type == long.class) {
            return Long.valueOf(word);
        }
        return word.startsWith("'") ? Integer.valueOf(word.charAt(1)) : Integer.valueOf(word);
    }

    private static Method method(String name) throws NoSuchMethodException {
        for (Method m : TakeLog.class.getDeclaredMethods()) {
            if (Modifier.isPublic(m.getModifiers()) && m.getName().equals(name)) {
                return m;
            }
        }
        throw new NoSuchMethodException(name);
    }

    private static int count(String arguments) {
        return arguments.isEmpty() ? 0 : arguments.split(", ").length;
    }

    /** Each public method: its name, how many parameters it has, and the words for what it throws. */
    private static Set<String> face() {
        Set<String> all = new TreeSet<>();
        for (Method m : TakeLog.class.getDeclaredMethods()) {
            List<String> thrown = new ArrayList<>();
            for (Class<?> type : m.getExceptionTypes()) {
                thrown.add(type == IndexOutOfBoundsException.class ? "index"
                        : type == IllegalArgumentException.class ? "argument" : "state");
            }
            if (Modifier.isPublic(m.getModifiers())) {
                all.add(m.getName() + " " + m.getParameterCount() + " " + String.join(", ", thrown));
            }
        }
        return all;
    }
}
