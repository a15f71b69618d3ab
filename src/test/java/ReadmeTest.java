import java.io.IOException;
import java.lang.reflect.InvocationTargetException;
import java.lang.reflect.Method;
import java.lang.reflect.Modifier;
import java.nio.file.Files;
import java.nio.file.Path;
import java.util.Set;
import java.util.TreeSet;
import java.util.regex.Matcher;
import java.util.regex.Pattern;

/** The examples of README.md: each call in them answers, or throws, what its comment begins with. */
public final class ReadmeTest {
    private static final String NEW_SCHEME = "PensionSections scheme = new PensionSections();";
    private static final Pattern CALL = Pattern.compile("scheme\\.(\\w+)\\((.*)\\); +// ([^:]+)(?:: .+)?");

    private final Set<String> called = new TreeSet<>();
    private PensionSections scheme;

    private ReadmeTest() {
    }

    private static Method named(String name) {
        for (Method method : PensionSections.class.getMethods()) {
            if (method.getName().equals(name)) {
                return method;
            }
        }
        throw new IllegalArgumentException("there is no method " + name);
    }

    private static Object argument(String text) {
        if (text.equals("true") || text.equals("false")) {
            return Boolean.valueOf(text);
        }
        if (text.length() == 3 && text.charAt(0) == '\'' && text.charAt(2) == '\'') {
            return (int) text.charAt(1);
        }
        return Integer.valueOf(text);
    }

    private static Object[] arguments(String texts) {
        if (texts.isEmpty()) {
            return new Object[0];
        }
        String[] parts = texts.split(", ");
        Object[] arguments = new Object[parts.length];
        for (int i = 0; i < parts.length; i++) {
            arguments[i] = argument(parts[i]);
        }
        return arguments;
    }

    private String outcome(String name, String texts) throws IllegalAccessException {
        try {
            return String.valueOf(named(name).invoke(scheme, arguments(texts)));
        } catch (InvocationTargetException e) {
            return e.getCause().getClass().getSimpleName();
        }
    }

    private void line(String line) throws IllegalAccessException {
        if (line.equals(NEW_SCHEME)) {
            scheme = new PensionSections();
            return;
        }
        Matcher call = CALL.matcher(line);
        boolean isCall = scheme != null && call.matches();
        Check.isTrue("a call with its answer: " + line, isCall);
        if (isCall) {
            String got = outcome(call.group(1), call.group(2));
            Check.isTrue(line + " (got " + got + ")", got.equals(call.group(3)));
            called.add(call.group(1));
        }
    }

    private void allLines() throws IOException, IllegalAccessException {
        boolean isExample = false;
        for (String line : Files.readAllLines(Path.of("README.md"))) {
            if (line.startsWith("```")) {
                isExample = line.equals("```java");
                scheme = null;
            } else if (isExample) {
                line(line);
            }
        }
    }

    /** No call of the face goes without an example. */
    private void allCalls() {
        for (Method method : PensionSections.class.getDeclaredMethods()) {
            if (Modifier.isPublic(method.getModifiers())) {
                Check.isTrue("an example of " + method.getName(), called.contains(method.getName()));
            }
        }
    }

    public static void main(String[] args) throws IOException, IllegalAccessException {
        ReadmeTest test = new ReadmeTest();
        test.allLines();
        test.allCalls();
        Check.end();
    }
}
