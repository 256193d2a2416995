import java.io.IOException;
import java.lang.reflect.Method;
import java.lang.reflect.Modifier;
import java.nio.file.Files;
import java.nio.file.Path;
import java.util.List;
import java.util.regex.Matcher;
import java.util.regex.Pattern;

/** Every call that README.md shows answers what README.md says, and every call has a row there. */
public final class ReadmeTest {
    private static final Pattern MADE =
            Pattern.compile("TrialSlots device = new TrialSlots\\((-?\\d+), (-?\\d+)\\);.*");
    private static final Pattern CALL =
            Pattern.compile("device\\.(\\w+)\\(([-\\d, ]*)\\);\\s*// (-?\\d+|true|false): .*");

    private static int calls = 0;
    private static int wrong = 0;

    private static void due(boolean holds, String what) {
        if (!holds) {
            wrong++;
            System.out.println("README.md: " + what);
        }
    }

    private static Object answer(TrialSlots device, String name, String list) throws ReflectiveOperationException {
        String[] texts = list.isBlank() ? new String[0] : list.split(",");
        Object[] arguments = new Object[texts.length];
        Class<?>[] types = new Class<?>[texts.length];
        for (int i = 0; i < texts.length; i++) {
            arguments[i] = Integer.valueOf(texts[i].trim());
            types[i] = int.class;
        }
        return TrialSlots.class.getMethod(name, types).invoke(device, arguments);
    }

    private static TrialSlots afterLine(TrialSlots device, String line) throws ReflectiveOperationException {
        Matcher made = MADE.matcher(line);
        if (made.matches()) {
            return new TrialSlots(Integer.parseInt(made.group(1)), Integer.parseInt(made.group(2)));
        }
        Matcher call = CALL.matcher(line);
        if (device == null || !call.matches()) {
            due(false, "this line of an example can't be run: " + line);
            return device;
        }
        calls++;
        Object got = answer(device, call.group(1), call.group(2));
        due(got.toString().equals(call.group(3)), "answered " + got + ": " + line);
        return device;
    }

    private static void runExamples(List<String> lines) throws ReflectiveOperationException {
        TrialSlots device = null;
        boolean inside = false;
        for (String line : lines) {
            if (line.startsWith("```")) {
                inside = line.equals("```java");
                device = null;
            } else if (inside) {
                device = afterLine(device, line);
            }
        }
        due(calls > 0, "there is no example");
    }

    private static void dueRows(List<String> lines) {
        for (Method method : TrialSlots.class.getDeclaredMethods()) {
            if (Modifier.isPublic(method.getModifiers())) {
                Pattern row = Pattern.compile("\\| `" + method.getName() + "\\(" + names(method) + "\\)` \\| .+ \\|");
                due(lines.stream().anyMatch(line -> row.matcher(line).matches()), "no row for " + method);
            }
        }
    }

    private static String names(Method method) {
        int count = method.getParameterCount();
        return count == 0 ? "" : "\\w+" + ", \\w+".repeat(count - 1);
    }

    public static void main(String[] args) throws IOException, ReflectiveOperationException {
        List<String> lines = Files.readAllLines(Path.of("README.md"));
        runExamples(lines);
        dueRows(lines);
        System.out.println(wrong == 0 ? "all " + calls + " calls of README.md are as due" : wrong + " are not as due");
        if (wrong != 0) {
            System.exit(1);
        }
    }
}
