import java.io.IOException;
import java.lang.reflect.InvocationTargetException;
import java.lang.reflect.Method;
import java.nio.file.Files;
import java.nio.file.Path;
import java.util.regex.Matcher;
import java.util.regex.Pattern;

/** The examples of README.md are called as they stand there; each comment begins with the answer. */
public final class ReadmeTest {
    private static final String BEGIN = "SnapForge forge = new SnapForge();";
    private static final Pattern CALL = Pattern.compile("forge\\.(\\w+)\\((.*)\\); +// (throws \\w+|-?\\d+)(: .+)?");
    private static final int LEAST_CALLS = 45;

    private ReadmeTest() {
    }

    public static void main(String[] args) throws IOException {
        SnapForge forge = new SnapForge();
        boolean inside = false;
        int calls = 0;
        for (String line : Files.readAllLines(Path.of("README.md"))) {
            if (line.startsWith("```")) {
                inside = line.equals("```java");
            } else if (inside && line.equals(BEGIN)) {
                forge = new SnapForge();
            } else if (inside) {
                compare(forge, line);
                calls++;
            }
        }
        Checks.same("the examples are found", calls >= LEAST_CALLS ? 1 : 0, 1);
        Checks.finish("ReadmeTest");
    }

    private static void compare(SnapForge forge, String line) {
        Matcher m = CALL.matcher(line);
        if (!m.matches()) {
            Checks.same(line, "no call with its answer", "a call with its answer");
            return;
        }
        String[] words = m.group(2).isEmpty() ? new String[0] : m.group(2).split(", ");
        Checks.same(line, answer(forge, m.group(1), words), m.group(3));
    }

    private static String answer(SnapForge forge, String name, String[] words) {
        for (Method method : SnapForge.class.getMethods()) {
            if (!method.getName().equals(name)) {
                continue;
            }
            Class<?>[] types = method.getParameterTypes();
            if (types.length != words.length) {
                return "a call with " + types.length + " arguments";
            }
            Object[] values = new Object[words.length];
            for (int i = 0; i < words.length; i++) {
                values[i] = types[i] == boolean.class ? (Object) Boolean.valueOf(words[i]) : Integer.valueOf(words[i]);
            }
            try {
                return String.valueOf(method.invoke(forge, values));
            } catch (InvocationTargetException e) {
                return "throws " + e.getCause().getClass().getSimpleName();
            } catch (IllegalAccessException e) {
                return "no access";
            }
        }
        return "no such call";
    }
}
