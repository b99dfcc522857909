import java.io.IOException;
import java.lang.reflect.InvocationTargetException;
import java.lang.reflect.Method;
import java.lang.reflect.Modifier;
import java.nio.charset.StandardCharsets;
import java.nio.file.Files;
import java.nio.file.Path;
import java.util.regex.Matcher;
import java.util.regex.Pattern;

/** README.md: its example is played call by call, and no call of the class is left out of its table. */
public final class ReadmeTest {
    private static final Pattern CALL = Pattern.compile("x\\.(\\w+)\\((.*)\\); +// (-?\\d+): .*");

    public static void main(String[] args) throws IOException, ReflectiveOperationException {
        String page = Files.readString(Path.of("README.md"), StandardCharsets.UTF_8);
        example(page);
        table(page);
        Check.end();
    }

    private static void example(String page) throws ReflectiveOperationException {
        String[] lines = page.split("```java\n", 2)[1].split("```", 2)[0].split("\n");
        Check.due(lines[0], lines[0].equals("HourRingers x = new HourRingers();") ? 1 : 0, 1);
        HourRingers x = new HourRingers();
        for (int i = 1; i < lines.length; i++) {
            Matcher line = CALL.matcher(lines[i]);
            boolean isCall = line.matches();
            Check.isTrue("a call and its answer: " + lines[i], isCall);
            if (isCall) {
                Check.due(lines[i], answer(x, line.group(1), line.group(2)), Long.parseLong(line.group(3)));
            }
        }
    }

    private static long answer(HourRingers x, String name, String numbers) throws ReflectiveOperationException {
        String[] takes = numbers.isEmpty() ? new String[0] : numbers.split(", *");
        for (Method method : HourRingers.class.getDeclaredMethods()) {
            if (method.getName().equals(name)) {
                Object[] with = new Object[takes.length];
                for (int i = 0; i < takes.length; i++) {
                    long number = Long.decode(takes[i].replace("L", ""));
                    with[i] = method.getParameterTypes()[i] == long.class ? (Object) number : (Object) (int) number;
                }
                try {
                    return ((Number) method.invoke(x, with)).longValue();
                } catch (InvocationTargetException e) {
                    throw new IllegalStateException(name + " threw", e);
                }
            }
        }
        throw new IllegalStateException("there is no call " + name);
    }

    private static void table(String page) {
        String calls = page.split("### The calls\n", 2)[1].split("## Tests\n", 2)[0];
        for (Method method : HourRingers.class.getDeclaredMethods()) {
            if (Modifier.isPublic(method.getModifiers())) {
                int takes = method.getParameterCount();
                String some = takes == 0 ? "" : "\\w+" + ", \\w+".repeat(takes - 1);
                Matcher call = Pattern.compile("`" + method.getName() + "\\(" + some + "\\)`").matcher(calls);
                Check.isTrue(method.getName() + " stands in the table", call.find());
            }
        }
    }
}
