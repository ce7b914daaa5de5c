import java.io.IOException;
import java.lang.reflect.InvocationTargetException;
import java.lang.reflect.Method;
import java.lang.reflect.Modifier;
import java.nio.file.Files;
import java.nio.file.Path;
import java.util.HashMap;
import java.util.List;
import java.util.Map;
import java.util.regex.Matcher;
import java.util.regex.Pattern;

/** The calls that README.md shows answer what stands behind them there, and each method of the class is shown. */
public final class ReadmeTests {
    private static final String START = "```java";
    private static final String END = "```";
    private static final String NEW = "FencingMeet meet = new FencingMeet();";
    private static final Pattern TYPED =
            Pattern.compile("for \\(char c : \"([^\"]*)\"\\.toCharArray\\(\\)\\) meet\\.append\\(c\\);");
    private static final Pattern CALL = Pattern.compile("meet\\.(\\w+)\\(([^)]*)\\);(?: +// (.*))?");
    private static final Pattern ANSWER = Pattern.compile("(throws \\w+|-?[0-9.]+)(: .*)?");
    private static final int MOST_CALLS = 512;

    private final Map<String, Method> methods = new HashMap<>();
    private final Map<String, Integer> shown = new HashMap<>();
    private FencingMeet meet = null;
    private int calls = 0;

    private ReadmeTests() {
        for (Method method : FencingMeet.class.getDeclaredMethods()) {
            if (Modifier.isPublic(method.getModifiers())) {
                methods.put(method.getName(), method);
            }
        }
    }

    public static void main(String[] args) throws IOException {
        ReadmeTests tests = new ReadmeTests();
        boolean isCode = false;
        for (String line : Files.readAllLines(Path.of("README.md"))) {
            if (isCode && !line.equals(END)) {
                tests.follow(line);
            }
            isCode = line.equals(START) || (isCode && !line.equals(END));
        }
        for (String name : tests.methods.keySet()) {
            Checks.isTrue("README shows " + name, tests.shown.containsKey(name));
        }
        Checks.isTrue("README ends its code", !isCode);
        Checks.isTrue("README keeps to the calls of an object", tests.calls <= MOST_CALLS);
        Checks.end("ReadmeTests");
    }

    private void follow(String line) {
        Matcher typed = TYPED.matcher(line);
        Matcher call = CALL.matcher(line);
        if (line.equals(NEW)) {
            meet = new FencingMeet();
        } else if (typed.matches()) {
            for (char c : typed.group(1).toCharArray()) {
                Checks.due(line, "nothing", () -> answer("append", c));
            }
        } else if (call.matches() && methods.containsKey(call.group(1))) {
            Checks.due(line, due(call.group(1), call.group(3)), () -> answer(call.group(1), numbers(call.group(2))));
        } else {
            Checks.isTrue("a line that can be followed: " + line, false);
        }
    }

    /** What the comment says: an exception or a number, and then, behind a colon, what it means. */
    private String due(String name, String comment) {
        if (methods.get(name).getReturnType() == void.class) {
            return "nothing";
        }
        Matcher said = ANSWER.matcher(comment == null ? "" : comment);
        return said.matches() ? said.group(1) : "a comment that says what is due";
    }

    private static Object[] numbers(String list) {
        return list.isEmpty() ? new Object[0] : List.of(list.split(", ")).stream().map(Integer::valueOf).toArray();
    }

    private String answer(String name, Object... arguments) {
        calls++;
        shown.merge(name, 1, Integer::sum);
        try {
            Object got = methods.get(name).invoke(meet, arguments);
            return got == null ? "nothing" : got.toString();
        } catch (InvocationTargetException e) {
            return "throws " + e.getCause().getClass().getSimpleName();
        } catch (IllegalAccessException e) {
            throw new IllegalStateException(e);
        }
    }
}
