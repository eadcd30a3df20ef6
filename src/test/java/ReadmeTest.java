import java.io.IOException;
import java.lang.reflect.InvocationTargetException;
import java.lang.reflect.Method;
import java.lang.reflect.Modifier;
import java.nio.file.Files;
import java.nio.file.Path;
import java.util.ArrayList;
import java.util.List;
import java.util.Set;
import java.util.TreeSet;
import java.util.regex.Matcher;
import java.util.regex.Pattern;

/** What README.md says of a call is what that call answers, and it leaves out no call. */
public final class ReadmeTest {
    private static final Pattern CALL =
        Pattern.compile("bridge\\.(\\w+)\\(([-0-9, ]*)\\);\\s+// ([^:\\s]+)(: .+)?");
    private static final String NEW_BRIDGE = "RopeChoices bridge = new RopeChoices();";

    private final Answers answers = new Answers();
    private final Set<String> called = new TreeSet<>();
    private RopeChoices bridge = null;

    public static void main(String[] args) throws IOException {
        ReadmeTest test = new ReadmeTest();
        for (String line : javaLines(Files.readAllLines(Path.of("README.md")))) {
            test.read(line);
        }
        test.answers.due("the calls that README.md shows", openMethods(), () -> test.called);
        test.answers.end("ReadmeTest");
    }

    /** The lines of the blocks of Java, but for empty ones. */
    private static List<String> javaLines(List<String> readme) {
        List<String> lines = new ArrayList<>();
        boolean inside = false;
        for (String line : readme) {
            if (line.startsWith("```")) {
                inside = line.equals("```java");
            } else if (inside && !line.isBlank()) {
                lines.add(line);
            }
        }
        return lines;
    }

    private void read(String line) {
        Matcher call = CALL.matcher(line);
        if (line.equals(NEW_BRIDGE)) {
            bridge = new RopeChoices();
        } else if (call.matches()) {
            called.add(call.group(1));
            answers.due(line, call.group(3), () -> outcome(call.group(1), call.group(2)));
        } else {
            answers.due("a line that this test can't read", "", () -> line);
        }
    }

    /** The answer, or the name of the exception, as it is written in README.md. */
    private String outcome(String name, String numbers) {
        List<Object> arguments = new ArrayList<>();
        for (String number : numbers.split(",")) {
            if (!number.isBlank()) {
                arguments.add(Integer.valueOf(number.trim()));
            }
        }
        try {
            return String.valueOf(methodNamed(name).invoke(bridge, arguments.toArray()));
        } catch (InvocationTargetException e) {
            return e.getCause().getClass().getSimpleName();
        } catch (IllegalAccessException e) {
            throw new AssertionError(e);
        }
    }

    private static Method methodNamed(String name) {
        for (Method m : RopeChoices.class.getDeclaredMethods()) {
            if (m.getName().equals(name)) {
                return m;
            }
        }
        throw new AssertionError("no such method: " + name);
    }

    private static Set<String> openMethods() {
        Set<String> names = new TreeSet<>();
        for (Method m : RopeChoices.class.getDeclaredMethods()) {
            if (Modifier.isPublic(m.getModifiers())) {
                names.add(m.getName());
            }
        }
        return names;
    }
}
