import java.io.IOException;
import java.lang.reflect.Method;
import java.lang.reflect.Modifier;
import java.nio.file.Files;
import java.nio.file.Path;
import java.util.regex.Matcher;
import java.util.regex.Pattern;

/** What README.md tells of the class: its example's calls, made in their order, and its table. */
public final class ReadmeTest {
    private static final Path README = Path.of("README.md");
    private static final Pattern EXAMPLE = Pattern.compile("(?s)```java\n(.*?)```");
    private static final Pattern MADE = Pattern.compile("EscapeCells storey = new EscapeCells\\((\\d+), (\\d+)\\);");
    private static final Pattern CALL =
        Pattern.compile("storey\\.(\\w+)\\(([^)]*)\\);\\s*// (-?\\d+:|true:|false:|\\(no answer\\)) .*");
    private static final Check check = new Check("ReadmeTest");

    public static void main(String[] args) throws IOException {
        String text = Files.readString(README);
        example(text);
        for (Method m : EscapeCells.class.getDeclaredMethods()) {
            if (Modifier.isPublic(m.getModifiers())) {
                check.holds("that the table has " + m.getName(), text.contains("\n| `" + m.getName() + "("));
                check.holds("that the example calls " + m.getName(), text.contains("\nstorey." + m.getName() + "("));
            }
        }
        check.finish();
    }

    private static void example(String text) {
        Matcher block = EXAMPLE.matcher(text);
        if (!block.find()) {
            check.holds("that there is an example", false);
            return;
        }
        String[] lines = block.group(1).split("\n");
        Matcher made = MADE.matcher(lines[0]);
        if (!made.matches()) {
            check.holds("that the example begins with a storey", false);
            return;
        }
        EscapeCells storey =
            new EscapeCells(Integer.parseInt(made.group(1)), Integer.parseInt(made.group(2)));
        for (int i = 1; i < lines.length; i++) {
            if (!lines[i].isBlank()) {
                line(storey, lines[i]);
            }
        }
    }

    private static void line(EscapeCells storey, String line) {
        Matcher call = CALL.matcher(line);
        if (!call.matches()) {
            check.holds("that this is a call with its answer: " + line, false);
            return;
        }
        String due = call.group(3).replace(":", "");
        String got = answer(storey, call.group(1), call.group(2).isEmpty() ? new String[0] : call.group(2).split(", "));
        check.holds("'" + line.strip() + "', which answers " + got + ",", got.equals(due));
    }

    private static String answer(EscapeCells storey, String name, String[] told) {
        for (Method m : EscapeCells.class.getDeclaredMethods()) {
            if (m.getName().equals(name) && m.getParameterCount() == told.length) {
                try {
                    Object got = m.invoke(storey, arguments(m, told));
                    return got == null ? "(no answer)" : got.toString();
                } catch (ReflectiveOperationException thrown) {
                    return "with " + thrown.getCause();
                }
            }
        }
        return "nothing: there is no such call";
    }

    private static Object[] arguments(Method m, String[] told) {
        Object[] arguments = new Object[told.length];
        for (int i = 0; i < told.length; i++) {
            boolean isNumber = m.getParameterTypes()[i] == int.class;
            arguments[i] = isNumber ? (Object) Integer.valueOf(told[i]) : (Object) Boolean.valueOf(told[i]);
        }
        return arguments;
    }
}
