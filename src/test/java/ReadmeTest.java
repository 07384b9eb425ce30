import java.lang.reflect.InvocationTargetException;
import java.lang.reflect.Method;
import java.nio.file.Files;
import java.nio.file.Path;
import java.util.List;
import java.util.regex.Matcher;
import java.util.regex.Pattern;

/** The calls that README.md shows answer what stands behind them there, and every call of the face is named. */
public final class ReadmeTest {
    private static final Pattern CALL = Pattern.compile("x\\.(\\w+)\\((.*?)\\);\\s*// (throws \\w+|-?\\d+)(?:: (.*))?");
    private static final Pattern FED = Pattern.compile("\"(.*)\"");
    private static final String NEW_OBJECT = "StillYear x = new StillYear();";
    private static final int BYTES_FED = 20;

    private StillYear x = null;
    private int calls = 0;

    public static void main(String[] args) throws Exception {
        List<String> lines = Files.readAllLines(Path.of("README.md"));
        new ReadmeTest().run(lines);
        everyCallIsNamed(String.join("\n", lines));
        Checks.end("ReadmeTest");
    }

    private void run(List<String> lines) throws Exception {
        boolean inCode = false;
        for (String line : lines) {
            if (line.startsWith("```")) {
                inCode = line.equals("```java");
            } else if (inCode && line.equals(NEW_OBJECT)) {
                x = new StillYear();
            } else if (inCode) {
                Matcher call = CALL.matcher(line);
                if (call.matches() && x != null) {
                    check(line, call);
                } else {
                    Checks.wrong("README.md has a line of code that is no call with its answer: " + line);
                }
            }
        }
        Checks.due("README.md shows a run of calls", calls > 0 ? 1 : 0, 1);
    }

    private void check(String line, Matcher call) throws Exception {
        calls++;
        Object[] numbers = numbers(call.group(2));
        Checks.same(line, answer(call.group(1), numbers), call.group(3));
        if (call.group(1).equals("feed") && call.group(4) != null) {
            checkText(line, numbers, call.group(4));
        }
    }

    private static Object[] numbers(String arguments) {
        String[] parts = arguments.isEmpty() ? new String[0] : arguments.split(", ");
        Object[] numbers = new Object[parts.length];
        for (int i = 0; i < parts.length; i++) {
            numbers[i] = (int) (long) Long.decode(parts[i]);
        }
        return numbers;
    }

    private String answer(String name, Object[] numbers) throws IllegalAccessException {
        for (Method m : StillYear.class.getMethods()) {
            if (m.getDeclaringClass() == StillYear.class && m.getName().equals(name) && m.getParameterCount() == numbers.length) {
                try {
                    return "" + m.invoke(x, numbers);
                } catch (InvocationTargetException e) {
                    return "throws " + e.getCause().getClass().getSimpleName();
                }
            }
        }
        return "no such call";
    }

    /** The text behind a feed is what its numbers hold, but for zeroes at the end. */
    private static void checkText(String line, Object[] numbers, String note) {
        Matcher fed = FED.matcher(note);
        if (!fed.matches()) {
            Checks.wrong("README.md does not tell what is fed: " + line);
            return;
        }
        for (int i = 0; i < BYTES_FED / 4; i++) {
            Checks.due(line + " number " + i, (Integer) numbers[i], Checks.four(fed.group(1), 4 * i));
        }
    }

    private static void everyCallIsNamed(String page) {
        for (Method m : StillYear.class.getMethods()) {
            if (m.getDeclaringClass() == StillYear.class) {
                boolean named = page.contains("`" + m.getName() + "`") || page.contains("x." + m.getName() + "(");
                Checks.due("README.md names " + m.getName(), named ? 1 : 0, 1);
            }
        }
    }
}
