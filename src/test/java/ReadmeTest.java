import java.lang.reflect.Method;
import java.lang.reflect.Modifier;
import java.nio.file.Files;
import java.nio.file.Path;
import java.util.List;
import java.util.regex.Matcher;
import java.util.regex.Pattern;

/** The examples of README.md answer what their comments say, and its table tells the codes rightly. */
public final class ReadmeTest {
    private static final Pattern BLOCK = Pattern.compile("(?s)```java\\n(.*?)```");
    private static final Pattern WRITE = Pattern.compile("write\\(x, \"(.*)\"\\);.*");
    private static final Pattern CALL = Pattern.compile("x\\.(\\w+)\\((.*)\\); +// (-?\\d+|[A-Z_]+)\\b.*");
    private static final Pattern CODE = Pattern.compile("(?m)^\\| `([A-Z_]+)` \\| `?(\\S+?)`? \\|");

    private DecisionTableCompiler x;

    public static void main(String[] args) throws ReflectiveOperationException, java.io.IOException {
        String text = Files.readString(Path.of(System.getProperty("readme", "README.md")));
        ReadmeTest test = new ReadmeTest();
        Matcher blocks = BLOCK.matcher(text);
        while (blocks.find()) {
            test.run(blocks.group(1).lines().toList());
        }
        codes(text);
        allMethodsAreNamed(text);
        Due.close();
    }

    /** A block that begins with a new object is an example; the other one is the function write. */
    private void run(List<String> lines) throws ReflectiveOperationException {
        if (!lines.get(0).contains("new DecisionTableCompiler()")) {
            Due.due("the block is the function write", lines.get(0).contains(" write(") ? 1 : 0, 1);
            return;
        }
        x = new DecisionTableCompiler();
        for (String line : lines.subList(1, lines.size())) {
            Matcher write = WRITE.matcher(line);
            Matcher call = CALL.matcher(line);
            if (write.matches()) {
                Due.write(x, write.group(1));
            } else if (call.matches()) {
                Due.due("README.md: " + line, answer(call.group(1), call.group(2)), number(call.group(3)));
            } else {
                Due.due("README.md: a call and its answer stand in: " + line, 0, 1);
            }
        }
    }

    private long answer(String name, String written) throws ReflectiveOperationException {
        String[] numbers = written.isEmpty() ? new String[0] : written.split(", ");
        for (Method method : DecisionTableCompiler.class.getMethods()) {
            if (method.getName().equals(name) && method.getParameterCount() == numbers.length) {
                Object[] arguments = new Object[numbers.length];
                for (int i = 0; i < numbers.length; i++) {
                    boolean isLong = method.getParameterTypes()[i] == long.class;
                    arguments[i] = isLong ? (Object) Long.valueOf(numbers[i]) : (Object) Integer.valueOf(numbers[i]);
                }
                return ((Number) method.invoke(x, arguments)).longValue();
            }
        }
        throw new NoSuchMethodException(name);
    }

    private static long number(String written) throws ReflectiveOperationException {
        if (!Character.isUpperCase(written.charAt(0))) {
            return Long.parseLong(written);
        }
        return ((Number) DecisionTableCompiler.class.getField(written).get(null)).longValue();
    }

    private static void codes(String text) throws ReflectiveOperationException {
        Matcher rows = CODE.matcher(text);
        int count = 0;
        while (rows.find()) {
            boolean lowest = rows.group(2).equals("Long.MIN_VALUE");
            Due.due("README.md: " + rows.group(1), number(rows.group(1)), lowest ? Long.MIN_VALUE : number(rows.group(2)));
            count++;
        }
        Due.due("README.md: codes", count, DecisionTableCompiler.class.getFields().length);
    }

    private static void allMethodsAreNamed(String text) {
        for (Method method : DecisionTableCompiler.class.getDeclaredMethods()) {
            if (Modifier.isPublic(method.getModifiers())) {
                boolean shown = text.contains("x." + method.getName() + "(");
                Due.due("README.md shows " + method.getName(), shown ? 1 : 0, 1);
            }
        }
    }
}
