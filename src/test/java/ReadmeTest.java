import java.io.IOException;
import java.lang.reflect.Method;
import java.nio.file.Files;
import java.nio.file.Path;
import java.util.regex.Matcher;
import java.util.regex.Pattern;

/** The first example in README.md answers what it says: its calls are made, line by line. */
public final class ReadmeTest {
    private static final Pattern TEXT = Pattern.compile("write\\(hall, \"([^\"]*)\"\\);");
    private static final Pattern CALL = Pattern.compile("hall\\.(\\w+)\\(([-\\d, ]*)\\); +// (-?\\w+).*");
    private static final String NEW = "CallerHall hall = new CallerHall();";

    public static void main(String[] args) throws IOException, ReflectiveOperationException {
        Path readme = Path.of(args.length > 0 ? args[0] : "src/test/data", "..", "..", "..", "README.md");
        boolean within = false;
        boolean over = false;
        Dance dance = null;
        int calls = 0;
        for (String line : Files.readAllLines(readme)) {
            boolean border = line.startsWith("```");
            over |= border && within;
            if (border || !within || over || line.isBlank() || line.startsWith("//")) {
                within |= line.equals("```java");
                continue;
            }
            if (line.startsWith(NEW)) {
                dance = Dance.empty();
            } else if (dance != null) {
                obey(dance, line);
                calls++;
            }
        }
        Dance.due("README.md has an example", calls > 20, true);
        Dance.finish("ReadmeTest");
    }

    private static void obey(Dance dance, String line) throws ReflectiveOperationException {
        Matcher text = TEXT.matcher(line);
        Matcher call = CALL.matcher(line);
        if (text.matches()) {
            dance.write(text.group(1));
        } else if (call.matches()) {
            String[] told = call.group(2).isEmpty() ? new String[0] : call.group(2).split(", ");
            Dance.due(line, String.valueOf(answer(dance, call.group(1), told)), call.group(3));
        } else {
            Dance.due("a line of README.md that is no call: " + line, false, true);
        }
    }

    private static Object answer(Dance dance, String name, String[] told) throws ReflectiveOperationException {
        for (Method method : Counted.class.getDeclaredMethods()) {
            if (method.getName().equals(name) && method.getParameterCount() == told.length) {
                Object[] numbers = new Object[told.length];
                for (int i = 0; i < told.length; i++) {
                    numbers[i] = Integer.valueOf(told[i]);
                }
                method.setAccessible(true);
                Object got = method.invoke(dance.hall, numbers);
                return got == null ? "nothing" : got;
            }
        }
        return "no such method";
    }
}
