import java.io.IOException;
import java.lang.reflect.Method;
import java.lang.reflect.Modifier;
import java.nio.file.Files;
import java.nio.file.Path;
import java.util.regex.Matcher;
import java.util.regex.Pattern;

/** README.md's example answers what its comments say, and its table names every call of the face. */
public final class ReadmeTest {
    private static final Pattern CALL = Pattern.compile("bench\\.(\\w+)\\((.*?)\\);\\s+// (true|false|-?\\d+):.*");
    private static final Checks CHECKS = new Checks();

    public static void main(String[] args) throws IOException, ReflectiveOperationException {
        String text = Files.readString(Path.of("README.md"));
        example(text);
        table(text);
        CHECKS.end();
    }

    private static void example(String text) throws ReflectiveOperationException {
        CHECKS.at("README.md's example");
        LookBench bench = new LookBench();
        int calls = 0;
        for (String line : text.lines().toList()) {
            if (line.startsWith("bench.")) {
                Matcher call = CALL.matcher(line);
                CHECKS.due("a call with its answer: " + line, call.matches(), true);
                if (call.matches()) {
                    String[] values = call.group(2).isEmpty() ? new String[0] : call.group(2).split(", ");
                    String answer = String.valueOf(made(bench, call.group(1), values));
                    CHECKS.due(line + " (" + answer + ")", answer.equals(call.group(3)), true);
                }
                calls++;
            }
        }
        CHECKS.due("there is an example", calls > 0, true);
    }

    private static Object made(LookBench bench, String name, String[] values) throws ReflectiveOperationException {
        for (Method m : LookBench.class.getDeclaredMethods()) {
            if (m.getName().equals(name) && m.getParameterCount() == values.length) {
                Object[] arguments = new Object[values.length];
                for (int i = 0; i < values.length; i++) {
                    arguments[i] = value(m.getParameterTypes()[i], values[i]);
                }
                return m.invoke(bench, arguments);
            }
        }
        return "no such call";
    }

    private static Object value(Class<?> type, String text) {
        if (type == boolean.class) {
            return Boolean.valueOf(text);
        }
        int number = text.startsWith("0b") ? Integer.parseInt(text.substring(2), 2) : Integer.parseInt(text);
        return type == long.class ? (Object) (long) number : (Object) number;
    }

    private static void table(String text) {
        CHECKS.at("README.md's table");
        for (Method m : LookBench.class.getDeclaredMethods()) {
            if (Modifier.isPublic(m.getModifiers())) {
                String[] names = text.split("`" + m.getName() + "\\(", 2);
                CHECKS.due("names " + m.getName(), names.length, 2);
                String inside = names.length < 2 ? "" : names[1].substring(0, names[1].indexOf(')'));
                int told = inside.isEmpty() ? 0 : inside.split(", ").length;
                CHECKS.due("the arguments of " + m.getName(), told, m.getParameterCount());
            }
        }
    }
}
