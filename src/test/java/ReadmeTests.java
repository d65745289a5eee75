import java.io.IOException;
import java.lang.reflect.InvocationTargetException;
import java.lang.reflect.Method;
import java.nio.file.Files;
import java.nio.file.Path;
import java.util.regex.Matcher;
import java.util.regex.Pattern;

/** The run of calls and the texts that README.md tells: each answers there what it answers here. */
public final class ReadmeTests {
    private static final Pattern CALL = Pattern.compile("x\\.(\\w+)\\((.*)\\);\\s*// (\\w+|-\\d+)(:.*)?");

    private ReadmeTests() {
    }

    public static void main(String[] args) throws IOException, IllegalAccessException {
        String page = Files.readString(Path.of("README.md"));
        run(page);
        texts(page);
        Check.end();
    }

    private static void run(String page) throws IllegalAccessException {
        int from = page.indexOf("```java\n") + 8;
        String[] lines = page.substring(from, page.indexOf("```", from)).split("\n");
        SleepMoves x = new SleepMoves();
        Check.due("the run begins with a new object", lines[0].equals("SleepMoves x = new SleepMoves();"), true);
        for (int i = 1; i < lines.length; i++) {
            Matcher call = CALL.matcher(lines[i]);
            boolean isCall = call.matches();
            Check.due("a call: " + lines[i], isCall, true);
            if (isCall) {
                String got = answer(x, call.group(1), call.group(2).split(", ", -1));
                Check.due(lines[i] + " (" + got + ")", got.equals(call.group(3)), true);
            }
        }
    }

    private static String answer(SleepMoves x, String name, String[] written) throws IllegalAccessException {
        for (Method method : SleepMoves.class.getDeclaredMethods()) {
            int told = written[0].isEmpty() ? 0 : written.length;
            if (method.getName().equals(name) && method.getParameterCount() == told) {
                Object[] arguments = new Object[told];
                for (int i = 0; i < told; i++) {
                    arguments[i] = argument(method.getParameterTypes()[i], written[i]);
                }
                try {
                    return String.valueOf(method.invoke(x, arguments));
                } catch (InvocationTargetException e) {
                    return e.getCause().getClass().getSimpleName();
                }
            }
        }
        return "no such call";
    }

    private static Object argument(Class<?> type, String written) {
        if (type == boolean.class) {
            return Boolean.valueOf(written);
        }
        long number = Long.decode(written);
        return type == int.class ? (Object) (int) number : (Object) number;
    }

    private static void texts(String page) {
        Matcher example = Pattern.compile("So `(.*)` is a street, and `(.*)` a rule").matcher(page);
        Check.due("the page tells two texts", example.find(), true);
        SleepMoves x = new SleepMoves();
        Check.feed(x, example.group(1));
        Check.due(example.group(1), x.text(0), 2);
        Check.feed(x, example.group(2));
        Check.due(example.group(2), x.text(1), 0);
    }
}
