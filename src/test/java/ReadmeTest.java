import java.io.IOException;
import java.lang.reflect.Method;
import java.nio.file.Files;
import java.nio.file.Path;
import java.util.HashMap;
import java.util.List;
import java.util.Map;
import java.util.regex.Matcher;
import java.util.regex.Pattern;

/** Makes the calls of README.md's example: each must answer what is told behind it. */
public final class ReadmeTest extends Checks {
    private static final String START = "SpanRows s = new SpanRows();";
    private static final Pattern CALL =
        Pattern.compile("(?:int (\\w+) = )?s\\.(\\w+)\\((.*)\\); +// (-?\\w+).*");

    private static final SpanRows s = new SpanRows();
    private static final Map<String, Integer> variables = new HashMap<>();
    private static int calls = 0;

    public static void main(String[] args) throws IOException, ReflectiveOperationException {
        begin("README.md");
        List<String> lines = Files.readAllLines(Path.of("README.md"));
        int start = lines.indexOf(START);
        for (int i = start + 1; start >= 0 && !lines.get(i).equals("```"); i++) {
            if (!lines.get(i).isEmpty()) {
                follow(lines.get(i));
            }
        }
        if (calls == 0) {
            fault("there is no example");
        }
        System.out.println(calls + " calls of the example: " + wrongAnswers() + " answers are not as told");
        if (wrongAnswers() != 0) {
            System.exit(1);
        }
    }

    private static void follow(String line) throws ReflectiveOperationException {
        Matcher call = CALL.matcher(line);
        if (!call.matches()) {
            fault("this is no call with its answer: " + line);
            return;
        }
        calls++;
        Object answer = make(call.group(2), call.group(3));
        String told = call.group(4).equals("NONE") ? String.valueOf(SpanRows.NONE) : call.group(4);
        if (!told.equals(answer.toString())) {
            fault("the answer was " + answer + ": " + line);
        }
        if (call.group(1) != null) {
            variables.put(call.group(1), (Integer) answer);
        }
    }

    private static Object make(String name, String arguments) throws ReflectiveOperationException {
        String[] written = arguments.isEmpty() ? new String[0] : arguments.split(", ");
        Method method = methodOf(name);
        Object[] values = new Object[written.length];
        for (int i = 0; i < written.length; i++) {
            values[i] = valueOf(written[i], method.getParameterTypes()[i]);
        }
        return method.invoke(s, values);
    }

    private static Method methodOf(String name) throws NoSuchMethodException {
        for (Method method : SpanRows.class.getDeclaredMethods()) {
            if (method.getName().equals(name)) {
                return method;
            }
        }
        throw new NoSuchMethodException(name);
    }

    private static Object valueOf(String written, Class<?> type) {
        if (type == boolean.class) {
            return Boolean.valueOf(written);
        }
        if (type == long.class) {
            return Long.valueOf(written);
        }
        return variables.containsKey(written) ? variables.get(written) : Integer.valueOf(written);
    }
}
