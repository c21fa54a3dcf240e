import java.io.IOException;
import java.lang.reflect.Method;
import java.nio.charset.StandardCharsets;
import java.nio.file.Files;
import java.nio.file.Path;
import java.util.HashMap;
import java.util.List;
import java.util.Map;
import java.util.regex.Matcher;
import java.util.regex.Pattern;

/** README.md's example answers what it says there, and its tables have each call. Run from the project's root. */
public final class ReadmeTest {
    private static final Pattern EXAMPLE =
        Pattern.compile("(?:int (\\w+) = )?staff\\.(\\w+)\\((.*?)\\);\\s+// (-?\\d+): .*");
    private static final Map<String, Integer> names = new HashMap<>();
    private static int wrong;

    public static void main(String[] args) throws IOException, ReflectiveOperationException {
        List<String> readme = Files.readAllLines(Path.of("README.md"), StandardCharsets.UTF_8);
        example(readme);
        tables(String.join("\n", readme));
        System.out.println(wrong == 0 ? "README.md says what the class does" : wrong + " faults of README.md");
        if (wrong != 0) {
            System.exit(1);
        }
    }

    private static void check(boolean holds, String otherwise) {
        if (!holds) {
            wrong++;
            System.out.println(otherwise);
        }
    }

    private static void example(List<String> readme) throws ReflectiveOperationException {
        SignDots staff = new SignDots();
        int calls = 0;
        for (String line : readme) {
            Matcher m = EXAMPLE.matcher(line);
            if (!m.matches()) {
                check(!line.startsWith("staff."), "no answer is told: " + line);
                continue;
            }
            int got = ask(staff, m.group(2), m.group(3));
            check(got == Integer.parseInt(m.group(4)), line + " answered " + got);
            if (m.group(1) != null) names.put(m.group(1), got);
            calls++;
        }
        check(calls >= 10, "the example has " + calls + " calls");
    }

    private static int ask(SignDots staff, String call, String arguments) throws ReflectiveOperationException {
        String[] told = arguments.isEmpty() ? new String[0] : arguments.split(", ");
        Object[] values = new Object[told.length];
        Class<?>[] types = new Class<?>[told.length];
        for (int i = 0; i < told.length; i++) {
            values[i] = names.containsKey(told[i]) ? names.get(told[i]) : Integer.valueOf(told[i]);
            types[i] = int.class;
        }
        return (Integer) SignDots.class.getMethod(call, types).invoke(staff, values);
    }

    private static void tables(String readme) {
        for (Method m : SignDots.class.getMethods()) {
            if (m.getDeclaringClass() != SignDots.class) continue;
            check(readme.contains("| `" + m.getName() + "("), "the tables lack " + m.getName());
        }
    }
}
