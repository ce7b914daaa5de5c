import java.io.IOException;
import java.lang.reflect.Constructor;
import java.lang.reflect.Field;
import java.lang.reflect.Method;
import java.lang.reflect.Modifier;
import java.nio.file.Files;
import java.nio.file.Path;
import java.util.List;
import java.util.Set;
import java.util.TreeSet;

/** The public face is that of the document, and the source keeps to those rules of LANGUAGE.md that a look can tell. */
public final class FaceTests {
    private static final String SOURCE = "src/main/java/FencingMeet.java";
    private static final Set<String> FACE = Set.of(
            "int addFencer(int, int)", "int drawPools(int)", "int setSeed(int)", "int fencer(int, int)",
            "int meet(int)", "int members(int)", "int member(int, int)", "int clubPairs()", "int bout(int, int)",
            "int current()", "int poolBout(int, int)", "int begin(int)", "int touch(int)", "int time()",
            "int card(int, int)", "int enter(int, int, int, int)", "int refusal()", "int result(int, int)",
            "double ratio(int)", "int ranked(int)", "int place(int)", "int why(int, int)", "int drawTable()",
            "int seeded(int)", "int tableBout(int, int)", "int finalist(int)", "int toGo(int)",
            "int beginRelay(int, int)", "int leg(int, int)", "int relay(int)", "int account(int)",
            "void append(char)", "int readResults()", "int faultPosition()", "int undo()", "void save()",
            "void restore()");
    private static final List<String> NOT_IN_SOURCE = List.of("->", "::", "Exact(", "finally", "synchronized",
            "assert ", "catch", "instanceof", "NaN", "hashCode", "equals(", "toString", "Random", "System.nano",
            "System.current", "System.out", "static {", "\t");

    private FaceTests() {
    }

    public static void main(String[] args) throws IOException {
        checkMethods();
        checkOtherMembers();
        checkNestedClasses();
        checkSource();
        Checks.end("FaceTests");
    }

    private static String signature(Method method) {
        StringBuilder text = new StringBuilder();
        for (Class<?> type : method.getParameterTypes()) {
            text.append(text.length() == 0 ? "" : ", ").append(type.getSimpleName());
        }
        return method.getReturnType().getSimpleName() + " " + method.getName() + "(" + text + ")";
    }

    private static void checkMethods() {
        Set<String> found = new TreeSet<>();
        Set<String> publicNames = new TreeSet<>();
        for (Method method : FencingMeet.class.getDeclaredMethods()) {
            if (Modifier.isPublic(method.getModifiers())) {
                found.add(signature(method));
                publicNames.add(method.getName());
            }
        }
        Checks.due("face: public methods", new TreeSet<>(FACE), () -> found);
        for (Method method : FencingMeet.class.getDeclaredMethods()) {
            if (!Modifier.isPublic(method.getModifiers())) {
                Checks.isTrue("face: private " + method.getName(), Modifier.isPrivate(method.getModifiers()));
                Checks.isTrue("face: name of " + method.getName(), !publicNames.contains(method.getName()));
            }
        }
        for (Class<?> nested : FencingMeet.class.getDeclaredClasses()) {
            for (Method method : nested.getDeclaredMethods()) {
                Checks.isTrue("face: name of " + method.getName(), !publicNames.contains(method.getName()));
            }
        }
    }

    private static void checkOtherMembers() {
        Constructor<?>[] constructors = FencingMeet.class.getDeclaredConstructors();
        Checks.due("face: constructors", 1, () -> constructors.length);
        Checks.isTrue("face: constructor", Modifier.isPublic(constructors[0].getModifiers())
                && constructors[0].getParameterCount() == 0);
        for (Field field : FencingMeet.class.getDeclaredFields()) {
            Checks.isTrue("face: field " + field.getName(), Modifier.isPrivate(field.getModifiers()));
            Checks.isTrue("face: static field " + field.getName(),
                    !Modifier.isStatic(field.getModifiers()) || Modifier.isFinal(field.getModifiers()));
        }
        int modifiers = FencingMeet.class.getModifiers();
        Checks.isTrue("face: public and final", Modifier.isPublic(modifiers) && Modifier.isFinal(modifiers));
    }

    private static void checkNestedClasses() {
        Class<?>[] nested = FencingMeet.class.getDeclaredClasses();
        Checks.isTrue("face: at most twelve classes", nested.length < 12);
        for (Class<?> type : nested) {
            Checks.isTrue("face: " + type.getSimpleName(), Modifier.isPrivate(type.getModifiers())
                    && Modifier.isStatic(type.getModifiers()) && Modifier.isFinal(type.getModifiers()));
        }
    }

    private static void checkSource() throws IOException {
        String source = Files.readString(Path.of(SOURCE));
        for (String text : NOT_IN_SOURCE) {
            Checks.isTrue("source: no " + text, !source.contains(text));
        }
        for (String line : source.split("\n")) {
            Checks.isTrue("source: length of " + line, line.length() <= 120);
            Checks.isTrue("source: signs of " + line, line.chars().allMatch(c -> c >= 32 && c <= 126));
            Checks.isTrue("source: import of " + line, !line.startsWith("import ")
                    || line.equals("import java.util.NoSuchElementException;"));
        }
    }
}
