import java.io.IOException;
import java.lang.reflect.InvocationTargetException;
import java.lang.reflect.Method;
import java.nio.file.Files;
import java.nio.file.Path;
import java.util.List;
import java.util.regex.Matcher;
import java.util.regex.Pattern;

/** The example of README.md: each call is made, and answers what stands behind it. */
public final class ReadmeTest {
    private static final Check CHECK = new Check();
    private static final Pattern CALL = Pattern.compile("desk\\.(\\w+)\\((.*?)\\);( *// (.*))?");
    private static final Pattern ANSWER = Pattern.compile("(-?\\d+|true|false)(:.*)?");

    public static void main(String[] args) throws IOException, ReflectiveOperationException {
        LaneDesk desk = new LaneDesk();
        List<String> lines = example();
        CHECK.due("the example has calls", lines.size() > 20, true);
        for (String line : lines) {
            Matcher call = CALL.matcher(line);
            if (call.matches()) {
                String answer = answer(desk, call.group(1), call.group(2));
                dueAnswer(line, answer, call.group(4));
            } else if (!line.equals("LaneDesk desk = new LaneDesk();")) {
                CHECK.report("README.md has a line that is no call: " + line);
            }
        }
        CHECK.end();
    }

    private static List<String> example() throws IOException {
        String text = Files.readString(Path.of("README.md"));
        int from = text.indexOf("```java\n");
        int to = text.indexOf("```", from + 3);
        return from < 0 || to < 0 ? List.of() : text.substring(from + 8, to).lines().toList();
    }

    private static String answer(LaneDesk desk, String name, String written) throws ReflectiveOperationException {
        Method method = methodOf(name);
        Class<?>[] types = method.getParameterTypes();
        String[] each = written.isEmpty() ? new String[0] : written.split(", ");
        Object[] arguments = new Object[each.length];
        for (int k = 0; k < each.length; k++) {
            arguments[k] = value(types[k], each[k]);
        }
        try {
            return String.valueOf(method.invoke(desk, arguments));
        } catch (InvocationTargetException e) {
            return String.valueOf(e.getCause());
        }
    }

    private static Method methodOf(String name) throws NoSuchMethodException {
        for (Method method : LaneDesk.class.getMethods()) {
            if (method.getName().equals(name)) {
                return method;
            }
        }
        throw new NoSuchMethodException(name);
    }

    private static Object value(Class<?> type, String written) {
        if (type == boolean.class) {
            return Boolean.valueOf(written);
        }
        if (type == long.class) {
            return Long.decode(written.replace("L", ""));
        }
        return Integer.decode(written);
    }

    /** A call with no answer behind it must answer nothing, and throw nothing. */
    private static void dueAnswer(String line, String answer, String comment) {
        Matcher written = ANSWER.matcher(comment == null ? "" : comment);
        String due = written.matches() ? written.group(1) : "null";
        if (!answer.equals(due)) {
            CHECK.report(line + " answered " + answer);
        }
    }
}
