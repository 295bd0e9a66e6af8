import java.io.IOException;
import java.lang.reflect.InvocationTargetException;
import java.lang.reflect.Method;
import java.lang.reflect.Modifier;
import java.nio.file.Files;
import java.nio.file.Path;
import java.util.Set;
import java.util.TreeSet;
import java.util.regex.Matcher;
import java.util.regex.Pattern;

/** The calls that README.md shows answer as it says they do. */
public final class ReadmeTest {
    private static final Check CHECK = new Check("README.md");
    private static final String NEW_OBJECT = "MeteredSheets sheets = new MeteredSheets();";
    private static final Pattern CALL =
        Pattern.compile("sheets\\.(\\w+)\\(([-0-9, ]*)\\); +// (-?\\d+|true|false|throws \\w+)(: .*)?");

    private final Set<String> called = new TreeSet<>();
    private final Set<String> thrown = new TreeSet<>();
    private MeteredSheets sheets;

    public static void main(String[] args) throws IOException, IllegalAccessException {
        ReadmeTest test = new ReadmeTest();
        boolean inExample = false;
        for (String line : Files.readAllLines(Path.of("README.md"))) {
            if (line.startsWith("```")) {
                inExample = line.equals("```java");
            } else if (inExample && !line.isBlank()) {
                test.follow(line);
            }
        }
        test.showsTheWholeFace();
        CHECK.end();
    }

    private void follow(String line) throws IllegalAccessException {
        if (line.equals(NEW_OBJECT)) {
            sheets = new MeteredSheets();
            return;
        }
        Matcher call = CALL.matcher(line);
        boolean isCall = sheets != null && call.matches();
        CHECK.due("whether this is a call on an object, with its answer: " + line, isCall, true);
        if (isCall) {
            called.add(call.group(1));
            CHECK.due(line, outcome(call.group(1), call.group(2)), call.group(3));
        }
    }

    private String outcome(String name, String numbers) throws IllegalAccessException {
        String[] texts = numbers.isBlank() ? new String[0] : numbers.split(",");
        Object[] arguments = new Object[texts.length];
        for (int place = 0; place < texts.length; place++) {
            arguments[place] = Integer.valueOf(texts[place].trim());
        }
        for (Method each : MeteredSheets.class.getMethods()) {
            if (each.getName().equals(name) && each.getParameterCount() == arguments.length) {
                return outcome(each, arguments);
            }
        }
        return "no such method";
    }

    private String outcome(Method method, Object[] arguments) throws IllegalAccessException {
        try {
            return String.valueOf(method.invoke(sheets, arguments));
        } catch (InvocationTargetException wrapped) {
            String name = wrapped.getCause().getClass().getSimpleName();
            thrown.add(name);
            return "throws " + name;
        }
    }

    private void showsTheWholeFace() {
        Set<String> methods = new TreeSet<>();
        Set<String> exceptions = new TreeSet<>();
        for (Method each : MeteredSheets.class.getDeclaredMethods()) {
            if (Modifier.isPublic(each.getModifiers())) {
                methods.add(each.getName());
                for (Class<?> exception : each.getExceptionTypes()) {
                    exceptions.add(exception.getSimpleName());
                }
            }
        }
        CHECK.due("the methods of the example", String.join(" ", called), String.join(" ", methods));
        CHECK.due("the exceptions of the example", String.join(" ", thrown), String.join(" ", exceptions));
    }
}
