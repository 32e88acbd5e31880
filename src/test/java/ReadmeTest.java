import java.io.IOException;
import java.lang.reflect.InvocationTargetException;
import java.lang.reflect.Method;
import java.nio.file.Files;
import java.nio.file.Path;
import java.util.regex.Matcher;
import java.util.regex.Pattern;

/** The run that README.md tells: each answer that is written behind a call must be the one it gives. */
public final class ReadmeTest {
    private static final Pattern CALL = Pattern.compile("hall\\.(\\w+)\\((.*?)\\);(?:\\s*// (-?\\w+).*)?");

    private static Method methodOf(String name) {
        for (Method method : BatchHall.class.getMethods()) {
            if (method.getName().equals(name)) {
                return method;
            }
        }
        throw new IllegalStateException("README.md calls " + name + ", which is no method");
    }

    private static Object[] arguments(String written) {
        String[] parts = written.isEmpty() ? new String[0] : written.split(", ");
        Object[] values = new Object[parts.length];
        for (int i = 0; i < parts.length; i++) {
            boolean isTruth = parts[i].equals("true") || parts[i].equals("false");
            if (isTruth) {
                values[i] = Boolean.valueOf(parts[i]);
            } else {
                values[i] = Integer.valueOf(parts[i]);
            }
        }
        return values;
    }

    private static void call(BatchHall hall, String line) throws IllegalAccessException {
        Matcher parts = CALL.matcher(line);
        if (!parts.matches()) {
            Check.sameText("a line of README.md", line, "a call with its answer");
            return;
        }
        Method method = methodOf(parts.group(1));
        String got;
        try {
            got = String.valueOf(method.invoke(hall, arguments(parts.group(2))));
        } catch (InvocationTargetException e) {
            got = e.getCause().toString();
        }
        // A call without an answer gives null, and nothing is written behind it.
        Check.sameText(line, got, String.valueOf(parts.group(3)));
    }

    public static void main(String[] args) throws IOException, IllegalAccessException {
        BatchHall hall = new BatchHall();
        int calls = 0;
        for (String line : Files.readAllLines(Path.of("README.md"))) {
            if (line.startsWith("hall.")) {
                call(hall, line);
                calls++;
            }
        }
        Check.yes("README.md tells a run", calls > 0);
        Check.end();
    }
}
