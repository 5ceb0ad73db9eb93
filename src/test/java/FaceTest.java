import java.lang.reflect.Constructor;
import java.lang.reflect.Field;
import java.lang.reflect.Method;
import java.lang.reflect.Modifier;
import java.nio.file.Files;
import java.nio.file.Path;
import java.util.ArrayList;
import java.util.Arrays;
import java.util.HashSet;
import java.util.List;
import java.util.Set;
import java.util.TreeSet;
import java.util.stream.Collectors;

/** The public face of the document, and those rules of LANGUAGE.md that a look at the class or its text can tell. */
public final class FaceTest {
    private static final String ARGUMENT = "IllegalArgumentException";
    private static final String STATE = "IllegalStateException";
    private static final String PLACE = "IndexOutOfBoundsException";

    private static final String[] FACE = {
        "int add(long, int) " + ARGUMENT + " " + STATE,
        "int forget(long) " + ARGUMENT + " " + STATE,
        "int words() ",
        "int count(long) " + ARGUMENT,
        "long wordAt(int) " + PLACE,
        "int distance(long, long) " + ARGUMENT,
        "int price(long, long) " + ARGUMENT,
        "boolean areNeighbours(int, int) " + ARGUMENT,
        "int corrections(long, int) " + ARGUMENT,
        "long correction(long, int, int) " + ARGUMENT + " " + PLACE,
        "int nearest(long) " + ARGUMENT,
        "int trieNodes() ",
        "int trieReached(long, int) " + ARGUMENT,
        "int rows(long, int) " + ARGUMENT,
        "int treeNodes() ",
        "int treeDepth(long) " + ARGUMENT,
        "long treeParent(long) " + ARGUMENT,
        "int treeCompared(long, int) " + ARGUMENT,
        "int neighbourhood(long, int) " + ARGUMENT,
        "int candidates(long, int) " + ARGUMENT,
        "int falseCandidates(long, int) " + ARGUMENT,
    };

    /** What the program may not hold in any form. */
    private static final String[] BARRED = {
        "package ", "->", "::", "try (", "finally", "synchronized", "assert", "static {", "System.", "Thread", "Random",
        "Exact(", "hashCode", "Throwable", "Error", "protected", "ArrayIndexOutOfBounds", "NullPointer", "ClassCast",
        "NegativeArraySize", "ArrayStore",
    };

    private static final Set<String> IMPORTED = Set.of("ArrayList", "Arrays", "Iterator", "List", "NoSuchElementException");

    public static void main(String[] args) throws Exception {
        Check.due("NONE", FuzzyFens.NONE, -1);
        methods();
        otherMembers();
        text();
        Check.finish();
    }

    private static void methods() {
        Set<String> found = new TreeSet<>();
        Set<String> shownNames = new HashSet<>();
        List<String> hiddenNames = new ArrayList<>();
        for (Method method : FuzzyFens.class.getDeclaredMethods()) {
            if (Modifier.isPrivate(method.getModifiers())) {
                hiddenNames.add(method.getName());
            } else {
                found.add(described(method));
                shownNames.add(method.getName());
                Check.due(method + " is public", method.getModifiers(), Modifier.PUBLIC);
            }
        }
        Set<String> due = new TreeSet<>(Arrays.asList(FACE));
        Check.due("the face " + found + " is " + due, found.equals(due), true);
        hiddenNames.retainAll(shownNames);
        Check.due("private methods with a public name " + hiddenNames, hiddenNames.size(), 0);
    }

    private static String described(Method method) {
        String parameters = Arrays.stream(method.getParameterTypes()).map(Class::getName).collect(Collectors.joining(", "));
        String thrown = Arrays.stream(method.getExceptionTypes()).map(Class::getSimpleName).collect(Collectors.joining(" "));
        return method.getReturnType().getName() + " " + method.getName() + "(" + parameters + ") " + thrown;
    }

    private static void otherMembers() {
        Check.due("the class is public and final", FuzzyFens.class.getModifiers(), Modifier.PUBLIC | Modifier.FINAL);
        Constructor<?>[] constructors = FuzzyFens.class.getDeclaredConstructors();
        Check.due("constructors", constructors.length, 1);
        Check.due("the constructor is public", constructors[0].getModifiers(), Modifier.PUBLIC);
        Check.due("the constructor's parameters", constructors[0].getParameterCount(), 0);
        for (Field field : FuzzyFens.class.getDeclaredFields()) {
            boolean isHidden = Modifier.isPrivate(field.getModifiers());
            Check.due(field + " is private", isHidden, !field.getName().equals("NONE"));
            checkStatic(field);
        }
        Class<?>[] inside = FuzzyFens.class.getDeclaredClasses();
        Check.due("at most twelve classes", inside.length < 12, true);
        for (Class<?> one : inside) {
            Check.due(one + " is static", Modifier.isStatic(one.getModifiers()), true);
            Check.due(one + " is not public", Modifier.isPublic(one.getModifiers()), false);
            long fields = Arrays.stream(one.getDeclaredFields()).filter(field -> !Modifier.isStatic(field.getModifiers())).count();
            Check.due(one + " has at most 20 fields", fields <= 20, true);
            for (Field field : one.getDeclaredFields()) {
                checkStatic(field);
            }
        }
    }

    private static void checkStatic(Field field) {
        if (Modifier.isStatic(field.getModifiers())) {
            Check.due(field + " is final", Modifier.isFinal(field.getModifiers()), true);
        }
    }

    private static void text() throws Exception {
        String text = Files.readString(Path.of("src/main/java/FuzzyFens.java"));
        for (int i = 0; i < text.length(); i++) {
            Check.due("sign number " + i + " is plain", text.charAt(i) < 128, true);
        }
        String code = text.replaceAll("(?s)/\\*.*?\\*/", "").replaceAll("//[^\n]*", "").replaceAll("\"[^\"\n]*\"", "\"\"");
        // An arrow behind a case is no lambda, and this one method of System is listed.
        String rest = code.replaceAll("(case [^:;{}]*|default )->", "").replace("System.arraycopy(", "");
        for (String barred : BARRED) {
            Check.due("the text holds '" + barred + "'", rest.contains(barred), false);
        }
        for (String line : code.split("\n")) {
            if (line.startsWith("import ")) {
                String name = line.replaceAll("import java\\.util\\.|;.*", "");
                Check.due("'" + line + "' is listed", IMPORTED.contains(name), true);
            }
        }
        methodsAreShort(code);
    }

    private static void methodsAreShort(String code) {
        int depth = 0;
        int start = 0;
        int startDepth = -1;
        String[] lines = code.split("\n");
        for (int i = 0; i < lines.length; i++) {
            boolean isHead = lines[i].endsWith(") {") || lines[i].matches(".*\\) throws [\\w, ]+\\{");
            if (startDepth < 0 && isHead) {
                start = i;
                startDepth = depth;
            }
            depth += braces(lines[i], '{') - braces(lines[i], '}');
            if (startDepth >= depth) {
                Check.due("lines of the method " + lines[start].trim(), i - start + 1 <= 60, true);
                startDepth = -1;
            }
        }
    }

    private static int braces(String line, char brace) {
        return (int) line.chars().filter(sign -> sign == brace).count();
    }
}
