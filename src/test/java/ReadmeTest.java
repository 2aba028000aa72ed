import java.lang.reflect.Method;
import java.lang.reflect.Modifier;
import java.nio.file.Files;
import java.nio.file.Path;
import java.util.Map;
import java.util.TreeMap;
import java.util.regex.Matcher;
import java.util.regex.Pattern;

/** The examples of README.md: each call answers what stands behind it. Run from the root of the project. */
public final class ReadmeTest {
    private static final Pattern CALL = Pattern.compile("nets\\.(\\w+)\\(([-0-9, ]*)\\);\\s*// (-?\\d+|NO)\\b.*");
    private static final Pattern TEXT = Pattern.compile("for \\(char sign : \"([^\"]*)\"\\.toCharArray\\(\\)\\).*");
    /** So that the examples can't quietly stop to be seen as such. */
    private static final int LEAST_CALLS = 50;

    public static void main(String[] args) throws Exception {
        Map<String, Method> methods = new TreeMap<>();
        for (Method method : DensitiesOfNets.class.getDeclaredMethods()) {
            if (Modifier.isPublic(method.getModifiers())) {
                methods.put(method.getName(), method);
            }
        }
        Checks.about("README.md");
        DensitiesOfNets nets = new DensitiesOfNets();
        int calls = 0;
        boolean isExample = false;
        for (String line : Files.readAllLines(Path.of("README.md"))) {
            if (line.startsWith("```")) {
                isExample = line.equals("```java");
                continue;
            }
            Matcher call = CALL.matcher(line);
            Matcher text = TEXT.matcher(line);
            if (isExample && call.matches()) {
                Method method = methods.get(call.group(1));
                Checks.must("a method: " + call.group(1), method != null);
                if (method != null) {
                    Checks.due(line, answer(nets, method, call.group(2)), numberOf(call.group(3)));
                }
                calls++;
            } else if (isExample && text.matches()) {
                Checks.feed(nets, text.group(1));
            } else if (isExample) {
                Checks.must("no other line in an example: " + line, line.startsWith("DensitiesOfNets nets = "));
            }
        }
        Checks.must("enough calls: " + calls, calls >= LEAST_CALLS);
        Checks.end();
    }

    private static long answer(DensitiesOfNets nets, Method method, String arguments) throws Exception {
        String[] numbers = arguments.isEmpty() ? new String[0] : arguments.split(", ");
        Object[] values = new Object[numbers.length];
        for (int i = 0; i < numbers.length; i++) {
            values[i] = Integer.parseInt(numbers[i]);
        }
        return ((Number) method.invoke(nets, values)).longValue();
    }

    private static long numberOf(String told) {
        return told.equals("NO") ? Checks.NO : Long.parseLong(told);
    }
}
