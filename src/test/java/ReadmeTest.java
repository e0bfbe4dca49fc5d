import java.io.IOException;
import java.lang.reflect.Method;
import java.lang.reflect.Modifier;
import java.nio.file.Files;
import java.nio.file.Path;
import java.util.HashMap;
import java.util.Map;
import java.util.Set;
import java.util.TreeSet;
import java.util.regex.Matcher;
import java.util.regex.Pattern;

/** The calls that README.md shows answer what it says behind them, and every call of the face is among them. */
public final class ReadmeTest {
    private static final Checks C = new Checks("ReadmeTest");
    private static final String NEW = "StepWalk walk = new StepWalk();";
    private static final Pattern CALL =
            Pattern.compile("(?:int (\\w+) = )?walk\\.((\\w+)\\(([^()]*)\\));\\s+// (-?\\d+|true|false)(?:: .+)?");

    private final Map<String, Long> numbers = new HashMap<>();
    private final Set<String> shown = new TreeSet<>();
    private StepWalk walk;

    public static void main(String[] args) throws IOException, ReflectiveOperationException {
        ReadmeTest test = new ReadmeTest();
        boolean inJava = false;
        for (String line : Files.readAllLines(Path.of("README.md"))) {
            if (line.startsWith("```")) {
                inJava = line.equals("```java");
            } else if (inJava && !line.isBlank()) {
                test.run(line);
            }
        }
        for (Method m : StepWalk.class.getDeclaredMethods()) {
            if (Modifier.isPublic(m.getModifiers())) {
                C.due(m.getName() + " is shown", test.shown.contains(m.getName()), true);
            }
        }
        C.end();
    }

    private void run(String line) throws ReflectiveOperationException {
        if (line.equals(NEW)) {
            walk = new StepWalk();
            numbers.clear();
            return;
        }
        Matcher call = CALL.matcher(line);
        boolean isCall = call.matches();
        C.due("a call with its answer: " + line, isCall, true);
        if (!isCall) {
            return;
        }
        Object got = answerTo(call.group(3), call.group(4).isEmpty() ? new String[0] : call.group(4).split(", "));
        String want = call.group(5);
        C.due(call.group(2) + " is " + got + " as shown, " + want, got.toString().equals(want), true);
        if (call.group(1) != null) {
            numbers.put(call.group(1), ((Number) got).longValue());
        }
    }

    private Object answerTo(String name, String[] told) throws ReflectiveOperationException {
        shown.add(name);
        for (Method m : StepWalk.class.getDeclaredMethods()) {
            if (m.getName().equals(name) && m.getParameterCount() == told.length) {
                Object[] values = new Object[told.length];
                for (int i = 0; i < told.length; i++) {
                    values[i] = valueOf(told[i], m.getParameterTypes()[i]);
                }
                return m.invoke(walk, values);
            }
        }
        return "no such call";
    }

    private Object valueOf(String told, Class<?> type) {
        if (type == boolean.class) {
            return told.equals("true");
        }
        long v = numbers.containsKey(told) ? numbers.get(told) : Long.parseLong(told);
        if (type == long.class) {
            return v;
        }
        return Math.toIntExact(v);
    }
}
