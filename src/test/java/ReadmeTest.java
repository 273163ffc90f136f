import java.io.IOException;
import java.lang.reflect.Method;
import java.lang.reflect.Modifier;
import java.nio.file.DirectoryStream;
import java.nio.file.Files;
import java.nio.file.Path;
import java.util.ArrayList;
import java.util.HashMap;
import java.util.List;
import java.util.Map;
import java.util.Set;
import java.util.TreeSet;
import java.util.regex.Matcher;
import java.util.regex.Pattern;

/** What README.md says holds of the class and of the tests as they stand. */
public final class ReadmeTest {
    private static final Path README = Path.of("README.md");
    private static final Path CI = Path.of(".ci/run");
    private static final Path TESTS = Path.of("src/test/java");
    /** A call of the example: a name for its answer (or none), the call, its arguments, the answer. */
    private static final Pattern CALL =
        Pattern.compile("(?:int (\\w+) = )?x\\.(\\w+)\\(([^)]*)\\);\\s*// (-?\\d+)(?::.*)?");

    private final Check check = new Check();
    private final Map<String, Integer> named = new HashMap<>();

    public static void main(String[] args) throws IOException, ReflectiveOperationException {
        ReadmeTest test = new ReadmeTest();
        String text = Files.readString(README);
        test.theExample(text);
        test.theCalls(text);
        test.theNumbers(text);
        test.theClasses(text);
        test.theTests(text);
        test.check.end();
    }

    private static List<String> linesOfExample(String text) {
        List<String> lines = new ArrayList<>();
        boolean inside = false;
        for (String line : text.split("\n")) {
            if (line.equals("```java")) {
                inside = true;
            } else if (line.equals("```")) {
                inside = false;
            } else if (inside) {
                lines.add(line);
            }
        }
        return lines;
    }

    private void theExample(String text) throws ReflectiveOperationException {
        List<String> lines = linesOfExample(text);
        check.holds("README.md has an example", lines.size() > 1);
        check.holds("its first line makes an object", lines.get(0).equals("HeadTrees x = new HeadTrees();"));
        HeadTrees x = new HeadTrees();
        for (String line : lines.subList(1, lines.size())) {
            Matcher matcher = CALL.matcher(line);
            boolean is = matcher.matches();
            check.holds("a call with its answer: " + line, is);
            if (is) {
                long got = answerOf(x, matcher.group(2), matcher.group(3));
                check.due("README.md: " + line, got, Long.parseLong(matcher.group(4)));
                if (matcher.group(1) != null) {
                    named.put(matcher.group(1), (int) got);
                }
            }
        }
    }

    private long answerOf(HeadTrees x, String call, String arguments) throws ReflectiveOperationException {
        List<Object> values = new ArrayList<>();
        List<Class<?>> types = new ArrayList<>();
        for (String argument : arguments.isEmpty() ? new String[0] : arguments.split(", ")) {
            Object value = valueOf(argument);
            values.add(value);
            types.add(value instanceof Boolean ? boolean.class : int.class);
        }
        Method method = HeadTrees.class.getMethod(call, types.toArray(new Class<?>[0]));
        return ((Number) method.invoke(x, values.toArray())).longValue();
    }

    private Object valueOf(String argument) {
        switch (argument) {
            case "true":
                return true;
            case "false":
                return false;
            case "HeadTrees.NONE":
                return HeadTrees.NONE;
            default:
                return named.containsKey(argument) ? named.get(argument) : Integer.valueOf(argument);
        }
    }

    private void theCalls(String text) {
        for (Method method : HeadTrees.class.getDeclaredMethods()) {
            if (Modifier.isPublic(method.getModifiers())) {
                String name = "`" + method.getName() + "`";
                check.holds("README.md's table names " + name, text.matches("(?s).*\n\\|[^\n]*" + name + ".*"));
            }
        }
    }

    private void theNumbers(String text) {
        Map<String, Integer> constants = Map.of("NONE", HeadTrees.NONE, "UNKNOWN", HeadTrees.UNKNOWN,
            "OUTSIDE", HeadTrees.OUTSIDE, "STATE", HeadTrees.STATE, "FULL", HeadTrees.FULL);
        for (Map.Entry<String, Integer> constant : constants.entrySet()) {
            String told = "`" + constant.getKey() + "` (" + constant.getValue() + ")";
            check.holds("README.md tells " + told, text.contains(told));
        }
        HeadTrees x = new HeadTrees();
        check.holds("README.md tells weighs() refused", text.contains("`weighs` answers " + x.weighs(1, 1)));
        check.holds("README.md tells best() refused", text.contains("`best` answers " + x.best(2, 0)));
        check.holds("README.md tells best() of none", text.contains("and " + x.best(0, 1) + " if there is no"));
    }

    /** Each class that README.md names stands inside HeadTrees, or is a helper or test of the project. */
    private void theClasses(String text) {
        Set<String> known = new TreeSet<>(Set.of("HeadTrees"));
        for (Class<?> inside : HeadTrees.class.getDeclaredClasses()) {
            known.add(inside.getSimpleName());
        }
        Matcher matcher = Pattern.compile("`([A-Z][a-z]\\w*)`").matcher(text);
        while (matcher.find()) {
            String name = matcher.group(1);
            boolean is = known.contains(name) || Files.exists(TESTS.resolve(name + ".java"));
            check.holds("README.md names the class " + name + ", which stands", is);
        }
    }

    private void theTests(String text) throws IOException {
        check.holds("README.md names " + CI, text.contains("`" + CI + "`"));
        check.holds(CI + " can be run", Files.isExecutable(CI));
        int found = 0;
        try (DirectoryStream<Path> files = Files.newDirectoryStream(TESTS, "*Test.java")) {
            for (Path file : files) {
                found++;
                String name = file.getFileName().toString().replace(".java", "");
                check.holds("README.md names the test " + name, text.contains("`" + name + "`"));
            }
        }
        check.holds("there are tests", found > 0);
    }
}
