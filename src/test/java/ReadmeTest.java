import java.io.IOException;
import java.lang.reflect.Method;
import java.lang.reflect.Modifier;
import java.nio.file.Files;
import java.nio.file.Path;
import java.util.ArrayList;
import java.util.Arrays;
import java.util.List;
import java.util.Set;
import java.util.TreeSet;
import java.util.regex.Matcher;
import java.util.regex.Pattern;
import java.util.stream.Collectors;
import java.util.stream.Stream;
import javax.tools.ToolProvider;

/** That README.md is true: its example, its list of the calls, and its table of the tests. */
public final class ReadmeTest {
    private static final Path README = Path.of("README.md");
    private static final Path TESTS = Path.of("src/test/java");
    private static final String EXAMPLE = "ReadmeExample";

    private static final String[] GROUPS = {
        "words: add, forget, words, count, wordAt",
        "distances and prices: distance, price, areNeighbours",
        "corrections: corrections, correction, nearest",
        "trie and automaton: trieNodes, trieReached, rows",
        "tree: treeNodes, treeDepth, treeParent, treeCompared",
        "deletion neighbourhoods: neighbourhood, candidates, falseCandidates",
    };

    public static void main(String[] args) throws Exception {
        String text = Files.readString(README);
        calls(text);
        tests(text);
        example(text);
        groupsOfCalls(text);
        Check.finish();
    }

    private static void groupsOfCalls(String text) {
        for (String group : GROUPS) {
            String heading = group.substring(0, group.indexOf(':'));
            String names = group.substring(group.indexOf(':') + 2);
            Check.sentence("Terms, Corrections",
                "Ahead of the calls " + names + " the interface says: ---- " + heading + ".");
            Check.due("the calls under '" + heading + "' in README.md",
                listed(section(text, heading)).stream().map(Listed::name).collect(Collectors.joining(", ")), names);
        }
    }

    private static void calls(String text) {
        Set<String> due = new TreeSet<>();
        for (Method method : FuzzyFens.class.getDeclaredMethods()) {
            if (Modifier.isPublic(method.getModifiers())) {
                due.add(described(method));
            }
        }
        Set<String> found = listed(text).stream().map(Listed::head).collect(Collectors.toCollection(TreeSet::new));
        Check.due("the calls in README.md", found.toString(), due.toString());
        for (Method method : FuzzyFens.class.getDeclaredMethods()) {
            for (Listed call : listed(text)) {
                if (Modifier.isPublic(method.getModifiers()) && call.head().equals(described(method))) {
                    thrown(method, call);
                }
            }
        }
    }

    /** All that take an argument but wordAt throw IllegalArgumentException; README.md says so for all of them at once. */
    private static void thrown(Method method, Listed call) {
        for (Class<?> one : List.of(IllegalStateException.class, IndexOutOfBoundsException.class)) {
            boolean due = Arrays.asList(method.getExceptionTypes()).contains(one);
            Check.due(call.name() + " in README.md throws " + one.getSimpleName(),
                call.words().contains(one.getSimpleName()), due);
        }
    }

    private static void tests(String text) throws IOException {
        Set<String> named = new TreeSet<>();
        Matcher names = Pattern.compile("`(\\w+Test)`").matcher(text);
        while (names.find()) {
            named.add(names.group(1));
        }
        try (Stream<Path> files = Files.list(TESTS)) {
            Set<String> due = files.map(file -> file.getFileName().toString()).filter(name -> name.endsWith("Test.java"))
                .map(name -> name.replace(".java", "")).collect(Collectors.toCollection(TreeSet::new));
            Check.due("the tests in README.md", named.toString(), due.toString());
        }
    }

    /** Compiles the blocks of Java of README.md, each answer behind a call put into a comparison, and runs them. */
    private static void example(String text) throws Exception {
        List<String> blocks = new ArrayList<>();
        Matcher block = Pattern.compile("(?s)```java\n(.*?)```").matcher(text);
        while (block.find()) {
            blocks.add(block.group(1));
        }
        Check.due("blocks of Java in README.md", blocks.size(), 2);
        String lines = Arrays.stream(blocks.get(1).split("\n")).map(ReadmeTest::compared).collect(Collectors.joining("\n"));
        String code = "public final class " + EXAMPLE + " {\n" + blocks.get(0)
            + "public static void main(String[] args) {\n" + lines + "\n}\n}\n";
        // Check is seen from the same folder alone.
        Path folder = Path.of(System.getProperty("java.class.path"));
        Path file = folder.resolve(EXAMPLE + ".java");
        Files.writeString(file, code);
        int refused = ToolProvider.getSystemJavaCompiler().run(null, null, null,
            "--release", "17", "-cp", folder.toString(), "-d", folder.toString(), file.toString());
        Check.due("faults that javac finds in the example", refused, 0);
        Class.forName(EXAMPLE).getMethod("main", String[].class).invoke(null, (Object) new String[0]);
    }

    private static String compared(String line) {
        Matcher matcher = Pattern.compile("(fens\\..*|letters\\(.*);\\s+// (.*)").matcher(line);
        if (!matcher.matches()) {
            return line;
        }
        String call = matcher.group(1);
        String said = "\"" + call.replace("\"", "") + "\"";
        String answer = matcher.group(2);
        if (answer.startsWith("throws ")) {
            return "Check.throwing(" + said + ", " + answer.substring(7) + ".class, () -> " + call + ");";
        }
        return "Check.due(" + said + ", " + call + ", " + answer + ");";
    }

    private static String section(String text, String heading) {
        int start = text.indexOf("\n### " + heading + "\n");
        int end = text.indexOf("\n##", start + 1);
        return start < 0 ? "" : text.substring(start, end < 0 ? text.length() : end);
    }

    /** A call as README.md lists it: its name, its head without the names of parameters, and what is said of it. */
    private record Listed(String name, String head, String words) {
    }

    private static List<Listed> listed(String text) {
        List<Listed> calls = new ArrayList<>();
        Matcher item = Pattern.compile("(?m)^- `(\\w+ (\\w+)\\(.*?\\))`((?:.*\n)(?:  .*\n?)*)").matcher(text);
        while (item.find()) {
            String head = item.group(1).replaceAll("(long|int) \\w+(?=[,)])", "$1");
            calls.add(new Listed(item.group(2), head, item.group(3)));
        }
        return calls;
    }

    private static String described(Method method) {
        String parameters = Arrays.stream(method.getParameterTypes()).map(Class::getName).collect(Collectors.joining(", "));
        return method.getReturnType().getName() + " " + method.getName() + "(" + parameters + ")";
    }
}
