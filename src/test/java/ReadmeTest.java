import java.io.IOException;
import java.lang.reflect.InvocationTargetException;
import java.lang.reflect.Method;
import java.nio.file.Files;
import java.nio.file.Path;
import java.util.Arrays;
import java.util.regex.Matcher;
import java.util.regex.Pattern;

/** Makes the calls of the example in README.md and compares their answers with those that stand behind them. */
final class ReadmeTest {
    private static final Pattern CALL =
        Pattern.compile("blocks\\.(\\w+)\\((.*?)\\);\\s*// (throws \\w+|-?[0-9]+(?:\\.[0-9]+)?)(?::.*)?");

    private ReadmeTest() {
    }

    public static void main(String[] args) throws IOException, ReflectiveOperationException {
        GaugeBlocks blocks = new GaugeBlocks();
        int calls = 0;
        for (String line : Files.readAllLines(Path.of("README.md"))) {
            if (line.startsWith("blocks.")) {
                Matcher call = CALL.matcher(line);
                Checks.dueTrue("not to be read: " + line, call.matches());
                if (call.matches()) {
                    String got = answer(blocks, call.group(1), arguments(call.group(2)));
                    Checks.dueTrue(line + " answered " + got, got.equals(call.group(3)));
                    calls++;
                }
            }
        }
        Checks.dueTrue("the example is there", calls > 0);
        Checks.end("ReadmeTest");
    }

    private static Object[] arguments(String text) {
        if (text.isEmpty()) {
            return new Object[0];
        }
        return Arrays.stream(text.split(", ")).map(ReadmeTest::number).toArray();
    }

    private static int number(String text) {
        return text.startsWith("'") ? text.charAt(1) : Integer.parseInt(text);
    }

    private static String answer(GaugeBlocks blocks, String name, Object[] arguments)
            throws ReflectiveOperationException {
        Class<?>[] types = new Class<?>[arguments.length];
        Arrays.fill(types, int.class);
        Method method = GaugeBlocks.class.getMethod(name, types);
        try {
            return String.valueOf(method.invoke(blocks, arguments));
        } catch (InvocationTargetException thrown) {
            return "throws " + thrown.getCause().getClass().getSimpleName();
        }
    }
}
