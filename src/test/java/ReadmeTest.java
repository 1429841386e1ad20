import java.lang.reflect.Method;
import java.lang.reflect.Modifier;
import java.nio.file.Files;
import java.nio.file.Path;
import java.util.List;
import java.util.Map;
import java.util.TreeMap;
import java.util.regex.Matcher;
import java.util.regex.Pattern;

/** Runs the lines of README.md that show calls with their answers, and looks whether it tells every call. */
public final class ReadmeTest {
    private static final Due due = new Due();
    private static final Pattern CALL = Pattern.compile("^glue\\.(\\w+)\\((.*)\\);\\s*// (-?\\d+):.*$");
    private static final Pattern ROW = Pattern.compile("^\\| `(\\w+)\\((.*)\\)` \\|.*$");

    public static void main(String[] args) throws Exception {
        List<String> lines = Files.readAllLines(Path.of("README.md"));
        Map<String, Method> calls = calls();
        runsAreAsShown(lines, calls);
        everyCallIsTold(lines, calls);
        due.end();
    }

    private static Map<String, Method> calls() {
        Map<String, Method> calls = new TreeMap<>();
        for (Method method : GriefGlue.class.getDeclaredMethods()) {
            if (Modifier.isPublic(method.getModifiers())) {
                calls.put(method.getName(), method);
            }
        }
        return calls;
    }

    private static void runsAreAsShown(List<String> lines, Map<String, Method> calls) throws Exception {
        GriefGlue glue = null;
        int shown = 0;
        for (String line : lines) {
            if (line.equals("GriefGlue glue = new GriefGlue();")) {
                glue = new GriefGlue();
            } else if (line.startsWith("glue.")) {
                Matcher call = CALL.matcher(line);
                boolean readable = glue != null && call.matches() && calls.containsKey(call.group(1));
                due.isTrue("README.md shows a call with its answer: " + line, readable);
                if (readable) {
                    Method method = calls.get(call.group(1));
                    Object got = method.invoke(glue, numbers(method, call.group(2)));
                    due.is("README.md: " + line, ((Number) got).longValue(), Long.parseLong(call.group(3)));
                    shown++;
                }
            }
        }
        due.isTrue("README.md shows calls", shown > 0);
    }

    private static Object[] numbers(Method method, String told) {
        String[] parts = told.isEmpty() ? new String[0] : told.split(", ");
        Object[] numbers = new Object[parts.length];
        for (int i = 0; i < parts.length; i++) {
            String plain = parts[i].replace("GriefGlue.NONE", "-1").replaceAll("L$", "");
            long number = Long.decode(plain);
            if (method.getParameterTypes()[i] == long.class) {
                numbers[i] = number;
            } else {
                numbers[i] = Math.toIntExact(number);
            }
        }
        return numbers;
    }

    private static void everyCallIsTold(List<String> lines, Map<String, Method> calls) {
        Map<String, Integer> told = new TreeMap<>();
        for (String line : lines) {
            Matcher row = ROW.matcher(line);
            if (row.matches()) {
                told.put(row.group(1), row.group(2).isEmpty() ? 0 : row.group(2).split(", ").length);
            }
        }
        due.is("calls that README.md tells", told.size(), calls.size());
        for (Method method : calls.values()) {
            int numbers = told.getOrDefault(method.getName(), -1);
            due.is("numbers that README.md tells of " + method.getName(), numbers, method.getParameterCount());
        }
    }
}
