import java.io.IOException;
import java.lang.reflect.Method;
import java.lang.reflect.Modifier;
import java.nio.charset.StandardCharsets;
import java.nio.file.Files;
import java.nio.file.Path;
import java.util.regex.Matcher;
import java.util.regex.Pattern;

/** The calls that README.md shows return what stands behind them, and each public name stands on that page. */
public final class ReadmeTest {
    private static final Pattern CALL = Pattern.compile("x\\.(\\w+)\\((.*?)\\); +// (-?\\d+|[A-Z_]+)(:.*)?");

    private static int calls;
    private static int wrong;
    private static GodChips x;

    private static void fail(String what) {
        wrong++;
        System.out.println(what);
    }

    private static int number(String argument) {
        return argument.startsWith("'") ? argument.charAt(1) : Integer.parseInt(argument);
    }

    private static int answer(String name, String arguments) throws ReflectiveOperationException {
        String[] all = arguments.isEmpty() ? new String[0] : arguments.equals("','") ? new String[] {arguments}
            : arguments.split(", ");
        Object[] numbers = new Object[all.length];
        Class<?>[] types = new Class<?>[all.length];
        for (int i = 0; i < all.length; i++) {
            numbers[i] = number(all[i]);
            types[i] = int.class;
        }
        return (int) GodChips.class.getMethod(name, types).invoke(x, numbers);
    }

    private static int due(String told) throws ReflectiveOperationException {
        return Character.isLetter(told.charAt(0)) ? GodChips.class.getField(told).getInt(null) : Integer.parseInt(told);
    }

    private static void line(String line) throws ReflectiveOperationException {
        if (line.equals("GodChips x = new GodChips();")) {
            x = new GodChips();
            return;
        }
        Matcher call = CALL.matcher(line);
        if (!call.matches()) {
            fail("this line is no call with an answer: " + line);
            return;
        }
        calls++;
        int got = answer(call.group(1), call.group(2));
        if (got != due(call.group(3))) {
            fail("answered " + got + ": " + line);
        }
    }

    public static void main(String[] args) throws IOException, ReflectiveOperationException {
        String page = new String(Files.readAllBytes(Path.of("README.md")), StandardCharsets.UTF_8);
        Matcher code = Pattern.compile("(?s)```java\n(.*?)\n```").matcher(page);
        while (code.find()) {
            for (String line : code.group(1).split("\n")) {
                line(line);
            }
        }
        for (Method method : GodChips.class.getDeclaredMethods()) {
            boolean shown = page.contains("`" + method.getName() + "`");
            if (Modifier.isPublic(method.getModifiers()) && !shown) {
                fail("README.md does not name the call " + method.getName());
            }
        }
        for (String name : new String[] {"INVALID_ARGUMENT", "NOT_POSSIBLE", "LIMIT_REACHED", "NOT_FOUND"}) {
            if (!page.contains("`GodChips." + name + "` | " + due(name) + " |")) {
                fail("README.md does not tell the value of " + name);
            }
        }
        System.out.println(calls + " calls of README.md, " + wrong + " wrong");
        if (wrong != 0 || calls == 0) {
            System.exit(1);
        }
    }
}
