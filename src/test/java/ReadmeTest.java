import java.io.IOException;
import java.lang.reflect.Method;
import java.lang.reflect.Modifier;
import java.nio.file.Files;
import java.nio.file.Path;
import java.util.List;
import java.util.Set;
import java.util.TreeSet;
import java.util.regex.Matcher;
import java.util.regex.Pattern;

/** The example of README.md is right, and README.md tells every call of the class. */
public final class ReadmeTest {
    private static final Pattern CALL = Pattern.compile(
            "room\\.(\\w+)\\((-?\\d+(?:, -?\\d+)*)?\\);\\s+// (-?\\d+|true|false)(?::.*)?");
    private static final int LEAST_CALLS = 30;

    private final Check check = new Check("ReadmeTest");
    private MeshRoom room;
    private int calls;

    public static void main(String[] args) throws IOException, ReflectiveOperationException {
        List<String> lines = Files.readAllLines(Path.of("README.md"));
        ReadmeTest test = new ReadmeTest();
        test.runExamples(lines);
        test.findCalls(lines);
        test.check.end();
    }

    private void runExamples(List<String> lines) throws ReflectiveOperationException {
        boolean inExample = false;
        for (String line : lines) {
            if (line.startsWith("```")) {
                inExample = line.equals("```java");
            } else if (inExample) {
                runLine(line);
            }
        }
        check.due("the example has " + LEAST_CALLS + " calls or more", calls >= LEAST_CALLS, true);
    }

    private void runLine(String line) throws ReflectiveOperationException {
        if (line.isEmpty() || line.startsWith("//")) {
            return;
        }
        if (line.equals("MeshRoom room = new MeshRoom();")) {
            room = new MeshRoom();
            return;
        }
        Matcher call = CALL.matcher(line);
        boolean isCall = call.matches() && room != null;
        check.due("a call with its answer is: " + line, isCall, true);
        if (isCall) {
            calls++;
            String answer = String.valueOf(answer(call.group(1), call.group(2)));
            check.due(line + " (it answered " + answer + ")", answer.equals(call.group(3)), true);
        }
    }

    private Object answer(String name, String arguments) throws ReflectiveOperationException {
        String[] written = arguments == null ? new String[0] : arguments.split(", ");
        Class<?>[] types = new Class<?>[written.length];
        Object[] values = new Object[written.length];
        for (int i = 0; i < written.length; i++) {
            types[i] = int.class;
            values[i] = Integer.valueOf(written[i]);
        }
        return MeshRoom.class.getMethod(name, types).invoke(room, values);
    }

    /** Each call has a row of its own in a table, with as many arguments as it takes. */
    private void findCalls(List<String> lines) {
        Set<String> told = new TreeSet<>();
        Matcher row = Pattern.compile("^\\| `(\\w+)\\(([^)]*)\\)` \\|", Pattern.MULTILINE)
                .matcher(String.join("\n", lines));
        while (row.find()) {
            int arguments = row.group(2).isEmpty() ? 0 : row.group(2).split(", ").length;
            told.add(row.group(1) + " with " + arguments);
        }
        Set<String> open = new TreeSet<>();
        for (Method method : MeshRoom.class.getDeclaredMethods()) {
            if (Modifier.isPublic(method.getModifiers())) {
                open.add(method.getName() + " with " + method.getParameterCount());
            }
        }
        check.due("README.md tells " + told + " of " + open, told.equals(open), true);
    }
}
