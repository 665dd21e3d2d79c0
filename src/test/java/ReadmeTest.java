import java.io.IOException;
import java.lang.reflect.InvocationTargetException;
import java.lang.reflect.Method;
import java.nio.file.Files;
import java.nio.file.Path;
import java.util.regex.Matcher;
import java.util.regex.Pattern;

/** The example of README.md: each of its calls answers, or throws, what stands behind it. */
public final class ReadmeTest {
    private static final Pattern BLOCK = Pattern.compile("(?s)```java\n(.*?)```");
    private static final Pattern TEXT = Pattern.compile("// \"(.*)\", (\\d+) bytes");
    private static final Pattern CALL = Pattern.compile("x\\.(\\w+)\\(([-\\d, ]*)\\);\\s*// (throws \\w+|-?\\d+|true|false)\\b.*");
    private static final String MAKING = "DeadMonday x = new DeadMonday();";

    private static String answer(DeadMonday x, String name, String numbers) throws ReflectiveOperationException {
        String[] told = numbers.isEmpty() ? new String[0] : numbers.split(", ");
        Class<?>[] types = new Class<?>[told.length];
        Object[] arguments = new Object[told.length];
        for (int k = 0; k < told.length; k++) {
            types[k] = int.class;
            arguments[k] = Integer.valueOf(told[k]);
        }
        Method method = DeadMonday.class.getMethod(name, types);
        try {
            return String.valueOf(method.invoke(x, arguments));
        } catch (InvocationTargetException e) {
            return "throws " + e.getCause().getClass().getSimpleName();
        }
    }

    /** The numbers of the calls of feed are those of the text that is said ahead of them. */
    private static void sayText(Matcher text, String block) {
        Check.due("bytes of the text", text.group(1).length(), Integer.parseInt(text.group(2)));
        int[] numbers = Check.numbers(text.group(1));
        for (int k = 0; k < numbers.length; k += 5) {
            StringBuilder call = new StringBuilder("x.feed(").append(numbers[k]);
            for (int j = 1; j < 5; j++) call.append(", ").append(numbers[k + j]);
            Check.due(call.append(");") + " stands there", block.contains(call), true);
        }
    }

    private static void run(String block) throws ReflectiveOperationException {
        DeadMonday x = new DeadMonday();
        int calls = 0;
        for (String line : block.lines().toList()) {
            if (line.isEmpty() || line.equals(MAKING)) continue;
            Matcher text = TEXT.matcher(line);
            Matcher call = CALL.matcher(line);
            if (text.matches()) {
                sayText(text, block);
            } else if (call.matches()) {
                Check.same(line, answer(x, call.group(1), call.group(2)), call.group(3));
                calls++;
            } else {
                Check.due("a line that is none of these: " + line, false, true);
            }
        }
        Check.due("calls in the example", calls > 0, true);
    }

    public static void main(String[] args) throws IOException, ReflectiveOperationException {
        String page = Files.readString(Path.of(System.getProperty("readme", "README.md")));
        Matcher block = BLOCK.matcher(page);
        Check.due("an example", block.find(), true);
        run(block.group(1));
        for (Method m : DeadMonday.class.getDeclaredMethods()) {
            if (java.lang.reflect.Modifier.isPublic(m.getModifiers())) {
                Check.due("the page names " + m.getName(), page.matches("(?s).*[ |]" + m.getName() + "[, ].*"), true);
            }
        }
        Check.end("ReadmeTest");
    }
}
