import java.io.IOException;
import java.lang.reflect.Method;
import java.nio.file.Files;
import java.nio.file.Path;
import java.util.regex.Matcher;
import java.util.regex.Pattern;

/** Makes the calls that README.md tells, and holds each answer against the one told behind it. */
public final class ReadmeTest {
    private static final Check CHECK = new Check();
    private static final Pattern TOLD_TEXT = Pattern.compile("\"(F[^\"]*)\"\\.toCharArray");
    private static final Pattern TOLD_CALL =
            Pattern.compile("^x\\.(\\w+)\\(([^)]*)\\);\\s*// (-?\\d+)", Pattern.MULTILINE);

    public static void main(String[] args) throws IOException, ReflectiveOperationException {
        String readme = Files.readString(Path.of("README.md"));
        OwedFurrows x = new OwedFurrows();
        Matcher text = TOLD_TEXT.matcher(readme);
        CHECK.due("README.md tells a country", text.find(), true);
        Check.writeAll(x, text.group(1));
        Matcher call = TOLD_CALL.matcher(readme);
        int calls = 0;
        while (call.find()) {
            calls++;
            long got = answer(x, call.group(1), call.group(2));
            CHECK.due("README.md: " + call.group(), got, Long.parseLong(call.group(3)));
        }
        CHECK.due("README.md tells calls", calls >= 10, true);
        CHECK.end();
    }

    private static long answer(OwedFurrows x, String name, String words)
            throws ReflectiveOperationException {
        String[] told = words.isEmpty() ? new String[0] : words.split(", ");
        for (Method method : OwedFurrows.class.getMethods()) {
            if (method.getName().equals(name) && method.getDeclaringClass() == OwedFurrows.class) {
                Object[] values = new Object[told.length];
                for (int i = 0; i < told.length; i++) {
                    values[i] = valueOf(told[i], method.getParameterTypes()[i]);
                }
                return ((Number) method.invoke(x, values)).longValue();
            }
        }
        throw new IllegalStateException("no call " + name);
    }

    private static Object valueOf(String word, Class<?> type) {
        if (type == boolean.class) {
            return Boolean.valueOf(word);
        }
        return type == long.class ? (Object) Long.valueOf(word) : (Object) Integer.valueOf(word);
    }
}
