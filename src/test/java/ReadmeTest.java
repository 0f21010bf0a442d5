import java.io.IOException;
import java.lang.reflect.Method;
import java.nio.file.Files;
import java.nio.file.Path;
import java.util.regex.Matcher;
import java.util.regex.Pattern;

/** The calls that README.md shows, in their order, each with the answer that it tells behind the call. */
public final class ReadmeTest extends Answers {
    private static final int FEWEST_CALLS = 30;
    private static final Pattern CALL = Pattern.compile("x\\.(\\w+)\\((.*?)\\);\\s*//\\s*(-?\\w+).*");

    private static Object[] numbers(String told) {
        String[] each = told.isBlank() ? new String[0] : told.split(",");
        Object[] numbers = new Object[each.length];
        for (int k = 0; k < each.length; k++) {
            numbers[k] = Integer.decode(each[k].trim());
        }
        return numbers;
    }

    private static Method named(String name) {
        for (Method method : CurveMeets.class.getDeclaredMethods()) {
            if (method.getName().equals(name)) {
                return method;
            }
        }
        throw new IllegalStateException("README.md calls " + name + ", which the class has not");
    }

    public static void main(String[] args) throws IOException, ReflectiveOperationException {
        CurveMeets x = new CurveMeets();
        int calls = 0;
        for (String line : Files.readAllLines(Path.of("README.md"))) {
            Matcher call = CALL.matcher(line);
            if (call.matches()) {
                Object got = named(call.group(1)).invoke(x, numbers(call.group(2)));
                alike(call.group(1) + "(" + call.group(2) + ")", got.toString(), call.group(3));
                calls++;
            } else if (line.startsWith("x.")) {
                alike("a call of README.md", line, "a call with its answer");
            }
        }
        due("so many calls at least", calls >= FEWEST_CALLS, true);
        close();
    }
}
