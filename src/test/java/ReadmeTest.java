import java.io.IOException;
import java.lang.reflect.InvocationTargetException;
import java.lang.reflect.Method;
import java.lang.reflect.Modifier;
import java.nio.file.Files;
import java.nio.file.Path;
import java.util.regex.Matcher;
import java.util.regex.Pattern;

/** README.md (-Dreadme=..): its example answers what it says, and it names every call of the face. */
public final class ReadmeTest {
    private static final Pattern ROW = Pattern.compile("x\\.(\\w+)\\(([^)]*)\\); *// (-?\\d+).*");
    private final Check check = new Check();
    private final WindowLoans x = new WindowLoans();

    public static void main(String[] args) throws IOException {
        ReadmeTest test = new ReadmeTest();
        String path = System.getProperty("readme");
        String page = path == null ? "" : Files.readString(Path.of(path));
        test.check.due("README.md is there (-Dreadme=..)", page.isEmpty(), false);
        for (String row : test.part(page, "```java\n", "```").split("\n")) {
            test.answer(row);
        }
        test.findCalls(test.part(page, "### The calls", "\n## "));
        test.check.end();
    }

    private String part(String page, String begin, String end) {
        int from = page.indexOf(begin) + begin.length();
        int until = page.indexOf(end, from);
        boolean found = from >= begin.length() && until >= 0;
        check.due("README.md has the part " + begin.strip(), found, true);
        return found ? page.substring(from, until) : "";
    }

    private void answer(String row) {
        if (row.equals("WindowLoans x = new WindowLoans();")) {
            return;
        }
        Matcher call = ROW.matcher(row);
        boolean isCall = call.matches();
        check.due("a row of the example tells its answer: " + row, isCall, true);
        if (isCall) {
            check.due(row, made(call.group(1), call.group(2).split(", ")), Long.parseLong(call.group(3)));
        }
    }

    private long made(String name, String[] told) {
        for (Method method : WindowLoans.class.getMethods()) {
            if (method.getName().equals(name)) {
                Object[] values = new Object[method.getParameterCount()];
                for (int k = 0; k < values.length; k++) {
                    values[k] = Integer.decode(told[k]);
                }
                try {
                    return ((Number) method.invoke(x, values)).longValue();
                } catch (IllegalAccessException | InvocationTargetException e) {
                    return Long.MIN_VALUE;
                }
            }
        }
        return Long.MIN_VALUE;
    }

    private void findCalls(String calls) {
        for (Method method : WindowLoans.class.getDeclaredMethods()) {
            if (Modifier.isPublic(method.getModifiers())) {
                String name = method.getName();
                check.due("README.md names " + name, calls.contains("`" + name + "("), true);
            }
        }
    }
}
