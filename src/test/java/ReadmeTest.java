import java.io.IOException;
import java.lang.reflect.Method;
import java.nio.file.Files;
import java.nio.file.Path;
import java.util.regex.Matcher;
import java.util.regex.Pattern;

/** The examples of README.md, done line by line: each must answer what stands behind it. */
public final class ReadmeTest {
    private static final Pattern CALL =
            Pattern.compile("x\\.(\\w+)\\(([^)]*)\\);(?:\\s*// (-?\\d+|true|false)(?:: .*)?)?");

    private static StackRun x = null;
    private static int answers = 0;

    public static void main(String[] args) throws IOException, ReflectiveOperationException {
        boolean inExample = false;
        for (String line : Files.readAllLines(Path.of("README.md"))) {
            if (line.startsWith("```")) {
                inExample = line.equals("```java");
            } else if (inExample) {
                example(line);
            }
        }
        Check.yes("README.md has examples", answers > 0);
        Check.finish();
    }

    private static void example(String line) throws ReflectiveOperationException {
        if (line.equals("StackRun x = new StackRun();")) {
            x = new StackRun();
            return;
        }
        Matcher m = CALL.matcher(line);
        Check.yes("can be read: " + line, m.matches());
        if (m.matches()) {
            String answer = String.valueOf(answerOf(m.group(1), m.group(2)));
            String due = String.valueOf(m.group(3));
            Check.yes("README.md is right (" + answer + " is the answer): " + line, answer.equals(due));
            answers++;
        }
    }

    private static Object answerOf(String name, String words) throws ReflectiveOperationException {
        String[] parts = words.isEmpty() ? new String[0] : words.split(", ");
        for (Method method : StackRun.class.getMethods()) {
            if (method.getName().equals(name) && method.getParameterCount() == parts.length) {
                Object[] given = new Object[parts.length];
                for (int i = 0; i < parts.length; i++) {
                    given[i] = valueOf(parts[i], method.getParameterTypes()[i]);
                }
                return method.invoke(x, given);
            }
        }
        return "that there is no such call";
    }

    private static Object valueOf(String word, Class<?> type) {
        if (type == boolean.class) {
            return Boolean.valueOf(word);
        }
        return Integer.valueOf(word);
    }
}
