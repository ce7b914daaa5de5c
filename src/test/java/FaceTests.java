import java.io.IOException;
import java.lang.reflect.Constructor;
import java.lang.reflect.Field;
import java.lang.reflect.Method;
import java.lang.reflect.Modifier;
import java.nio.file.Files;
import java.nio.file.Path;
import java.util.List;
import java.util.Set;
import java.util.TreeSet;

/** The public face is that of the document, and the source keeps to those rules of LANGUAGE.md that a look can tell. */
public final class FaceTests {
    private static final String SOURCE = "src/main/java/FencingMeet.java";
    private static final Set<String> FACE = Set.of(
            "int addFencer(int, int) throws IllegalArgumentException, IllegalStateException",
            "int drawPools(int) throws IllegalArgumentException, IllegalStateException",
            "int setSeed(int) throws IllegalArgumentException",
            "int fencer(int, int) throws IndexOutOfBoundsException, IllegalArgumentException",
            "int meet(int) throws IllegalArgumentException",
            "int members(int) throws IndexOutOfBoundsException",
            "int member(int, int) throws IndexOutOfBoundsException, NoSuchElementException",
            "int clubPairs()",
            "int bout(int, int) throws IndexOutOfBoundsException, IllegalArgumentException",
            "int current() throws NoSuchElementException",
            "int poolBout(int, int) throws IndexOutOfBoundsException, NoSuchElementException",
            "int begin(int) throws IndexOutOfBoundsException, UnsupportedOperationException",
            "int touch(int) throws IllegalArgumentException, IllegalStateException",
            "int time() throws IllegalStateException",
            "int card(int, int) throws IllegalArgumentException, IllegalStateException",
            "int enter(int, int, int, int) throws IndexOutOfBoundsException, UnsupportedOperationException",
            "int refusal() throws NoSuchElementException",
            "int result(int, int) throws IndexOutOfBoundsException, IllegalArgumentException",
            "double ratio(int) throws IndexOutOfBoundsException, ArithmeticException",
            "int ranked(int) throws NoSuchElementException",
            "int place(int) throws IndexOutOfBoundsException, NoSuchElementException",
            "int why(int, int) throws IndexOutOfBoundsException, NoSuchElementException",
            "int drawTable() throws IllegalStateException",
            "int seeded(int) throws IllegalStateException, NoSuchElementException",
            "int tableBout(int, int) throws IllegalStateException, NoSuchElementException",
            "int finalist(int) throws IllegalStateException, NoSuchElementException",
            "int toGo(int) throws IndexOutOfBoundsException, IllegalStateException, NoSuchElementException",
            "int beginRelay(int, int) throws IllegalArgumentException, IllegalStateException",
            "int leg(int, int) throws IllegalStateException, IllegalArgumentException",
            "int relay(int) throws NoSuchElementException, IllegalArgumentException",
            "int account(int) throws IllegalArgumentException",
            "void append(char) throws IllegalStateException",
            "int readResults() throws IllegalArgumentException",
            "int faultPosition()",
            "int undo() throws IllegalStateException",
            "void save()",
            "void restore() throws IllegalStateException");
    private static final List<String> NOT_IN_SOURCE = List.of("->", "::", "Exact(", "finally", "synchronized",
            "assert ", "catch", "instanceof", "NaN", "hashCode", "equals(", "toString", "Random", "System.nano",
            "System.current", "System.out", "static {", "\t");

    private static final int MOST_FIELDS = 20;
    private static final int MOST_PARAMETERS = 7;
    private static final int MOST_LINES = 60;

    private FaceTests() {
    }

    public static void main(String[] args) throws IOException {
        checkMethods();
        checkOtherMembers();
        checkNestedClasses();
        checkSource();
        checkSizes();
        Checks.end("FaceTests");
    }

    private static String signature(Method method) {
        StringBuilder text = new StringBuilder();
        for (Class<?> type : method.getParameterTypes()) {
            text.append(text.length() == 0 ? "" : ", ").append(type.getSimpleName());
        }
        StringBuilder thrown = new StringBuilder();
        for (Class<?> type : method.getExceptionTypes()) {
            thrown.append(thrown.length() == 0 ? " throws " : ", ").append(type.getSimpleName());
        }
        return method.getReturnType().getSimpleName() + " " + method.getName() + "(" + text + ")" + thrown;
    }

    private static void checkMethods() {
        Set<String> found = new TreeSet<>();
        Set<String> publicNames = new TreeSet<>();
        for (Method method : FencingMeet.class.getDeclaredMethods()) {
            if (Modifier.isPublic(method.getModifiers())) {
                found.add(signature(method));
                publicNames.add(method.getName());
            }
        }
        Checks.due("face: public methods", new TreeSet<>(FACE), () -> found);
        for (Method method : FencingMeet.class.getDeclaredMethods()) {
            if (!Modifier.isPublic(method.getModifiers())) {
                Checks.isTrue("face: private " + method.getName(), Modifier.isPrivate(method.getModifiers()));
                Checks.isTrue("face: name of " + method.getName(), !publicNames.contains(method.getName()));
            }
        }
        for (Class<?> nested : FencingMeet.class.getDeclaredClasses()) {
            for (Method method : nested.getDeclaredMethods()) {
                Checks.isTrue("face: name of " + method.getName(), !publicNames.contains(method.getName()));
            }
        }
    }

    private static void checkOtherMembers() {
        Constructor<?>[] constructors = FencingMeet.class.getDeclaredConstructors();
        Checks.due("face: constructors", 1, () -> constructors.length);
        Checks.isTrue("face: constructor", Modifier.isPublic(constructors[0].getModifiers())
                && constructors[0].getParameterCount() == 0);
        for (Field field : FencingMeet.class.getDeclaredFields()) {
            Checks.isTrue("face: field " + field.getName(), Modifier.isPrivate(field.getModifiers()));
            Checks.isTrue("face: static field " + field.getName(),
                    !Modifier.isStatic(field.getModifiers()) || Modifier.isFinal(field.getModifiers()));
        }
        int modifiers = FencingMeet.class.getModifiers();
        Checks.isTrue("face: public and final", Modifier.isPublic(modifiers) && Modifier.isFinal(modifiers));
    }

    private static void checkNestedClasses() {
        Class<?>[] nested = FencingMeet.class.getDeclaredClasses();
        Checks.isTrue("face: at most twelve classes", nested.length < 12);
        for (Class<?> type : nested) {
            Checks.isTrue("face: " + type.getSimpleName(), Modifier.isPrivate(type.getModifiers())
                    && Modifier.isStatic(type.getModifiers()) && Modifier.isFinal(type.getModifiers()));
        }
    }

    private static void checkSource() throws IOException {
        String source = Files.readString(Path.of(SOURCE));
        for (String text : NOT_IN_SOURCE) {
            Checks.isTrue("source: no " + text, !source.contains(text));
        }
        for (String line : source.split("\n")) {
            Checks.isTrue("source: length of " + line, line.length() <= 120);
            Checks.isTrue("source: signs of " + line, line.chars().allMatch(c -> c >= 32 && c <= 126));
            Checks.isTrue("source: import of " + line, !line.startsWith("import ")
                    || line.equals("import java.util.NoSuchElementException;"));
        }
    }

    private static void checkSizes() throws IOException {
        for (Class<?> type : FencingMeet.class.getDeclaredClasses()) {
            checkSizesOf(type);
        }
        checkSizesOf(FencingMeet.class);
        List<String> lines = Files.readAllLines(Path.of(SOURCE));
        for (int start = 0; start < lines.size(); start++) {
            String line = lines.get(start);
            String indent = line.substring(0, line.length() - line.stripLeading().length());
            // a method begins at 4 or 8, and a line that goes on with another one stands farther in
            if (line.endsWith("{") && (indent.length() == 4 || indent.length() == 8) && !line.contains(" class ")) {
                int end = start + 1;
                while (end < lines.size() && !lines.get(end).startsWith(indent + "}")) {
                    end++;
                }
                Checks.isTrue("source: the lines from " + line, end - start < MOST_LINES);
            }
        }
    }

    private static void checkSizesOf(Class<?> type) {
        int fields = 0;
        for (Field field : type.getDeclaredFields()) {
            fields += Modifier.isStatic(field.getModifiers()) ? 0 : 1;
        }
        Checks.isTrue("source: fields of " + type.getSimpleName(), fields <= MOST_FIELDS);
        for (Method method : type.getDeclaredMethods()) {
            Checks.isTrue("source: parameters of " + method.getName(), method.getParameterCount() <= MOST_PARAMETERS);
        }
    }
}
