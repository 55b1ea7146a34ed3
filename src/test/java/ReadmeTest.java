import java.io.IOException;
import java.lang.reflect.Method;
import java.lang.reflect.Modifier;
import java.nio.file.Files;
import java.nio.file.Path;
import java.util.Arrays;
import java.util.regex.Matcher;
import java.util.regex.Pattern;

/** What README.md shows holds: each call of its Java answers the number behind it, and no call is left out. */
public final class ReadmeTest extends Checks {
    private static final Pattern TEXT = Pattern.compile("for \\(char letter : \"(.*)\"\\.toCharArray.*");
    private static final Pattern CALL = Pattern.compile("x\\.(\\w+)\\(([-\\d, ]*)\\);\\s*// (-?\\d+)\\b.*");

    public static void main(String[] args) throws IOException {
        String page = Files.readString(Path.of("README.md"));
        due("calls that are shown", callsOf(page) > 20 ? 1 : 0, 1);
        sentence("README.md names each call", () -> eachCallIsNamed(page));
        end("ReadmeTest");
    }

    private static int callsOf(String page) {
        int calls = 0;
        TrimmedPeaks x = new TrimmedPeaks();
        for (String line : page.split("\n")) {
            Matcher text = TEXT.matcher(line);
            Matcher call = CALL.matcher(line);
            if (line.contains("= new TrimmedPeaks()")) {
                x = new TrimmedPeaks();
            } else if (text.matches()) {
                text.group(1).chars().forEach(x::write);
            } else if (call.matches()) {
                due(line, answer(x, call.group(1), call.group(2)), Integer.parseInt(call.group(3)));
                calls++;
            } else {
                due("a line that is no call: " + line, line.startsWith("x.") ? 1 : 0, 0);
            }
        }
        return calls;
    }

    private static int answer(TrimmedPeaks x, String name, String numbers) {
        Object[] values = numbers.isBlank() ? new Object[0]
            : Arrays.stream(numbers.split(", ")).map(Integer::valueOf).toArray();
        Class<?>[] types = new Class<?>[values.length];
        Arrays.fill(types, int.class);
        try {
            return (Integer) TrimmedPeaks.class.getMethod(name, types).invoke(x, values);
        } catch (ReflectiveOperationException gone) {
            throw new IllegalStateException("README.md shows " + name + " with " + numbers, gone);
        }
    }

    private static void eachCallIsNamed(String page) {
        for (Method method : TrimmedPeaks.class.getDeclaredMethods()) {
            if (Modifier.isPublic(method.getModifiers())) {
                Pattern named = Pattern.compile("`" + method.getName() + "\\(([^)]*)\\)`");
                Matcher matcher = named.matcher(page);
                due(method.getName() + " is named", matcher.find() ? 1 : 0, 1);
                matcher.reset();
                int numbers = !matcher.find() || matcher.group(1).isEmpty() ? 0 : matcher.group(1).split(",").length;
                due(method.getName() + " takes", numbers, method.getParameterCount());
            }
        }
    }
}
