import java.io.IOException;
import java.lang.reflect.Field;
import java.lang.reflect.Method;
import java.lang.reflect.Modifier;
import java.nio.file.Files;
import java.nio.file.Path;
import java.util.Arrays;
import java.util.List;
import java.util.Set;
import java.util.TreeSet;
import java.util.regex.Matcher;
import java.util.regex.Pattern;

/** What of LANGUAGE.md can be seen by a plain look at the source and at the compiled classes. */
public final class LanguageTest {
    private static final Path SOURCE = Path.of("src/main/java/HeadTrees.java");
    private static final List<String> FACE = List.of("int words(int)", "int tag(int,int)",
        "int weight(int,int,int)", "int forbid(int,int,boolean)", "int weighs(int,int)", "int head(int,int)",
        "int headOf(int)", "int is()", "int sum()", "int over(int,int)", "int about(int,int)",
        "int best(int,int)", "long trees(int)", "int rank(int)", "int keep()", "int forget(int)",
        "int recall(int)", "int table(int,int,int)", "int learn()", "int ask(int,int,int)", "int clear()",
        "int answers(int)", "int answer(int,int)", "int agree(int,int)", "int near(int,int)",
        "int count(int)", "long digest()");
    private static final Set<String> CONSTANTS = Set.of("NONE", "UNKNOWN", "OUTSIDE", "STATE", "FULL");

    private final Check check = new Check();

    public static void main(String[] args) throws IOException {
        LanguageTest test = new LanguageTest();
        test.theFace();
        for (Class<?> inside : HeadTrees.class.getDeclaredClasses()) {
            test.aClassInside(inside);
        }
        String code = withoutComments(Files.readString(SOURCE));
        test.noForbiddenWord(code);
        test.libraryCalls(code);
        test.lengths();
        test.check.end();
    }

    private void theFace() {
        check.holds("public final class", Modifier.isPublic(HeadTrees.class.getModifiers())
            && Modifier.isFinal(HeadTrees.class.getModifiers()));
        Set<String> seen = new TreeSet<>();
        Set<String> publicNames = new TreeSet<>();
        for (Method method : HeadTrees.class.getDeclaredMethods()) {
            if (Modifier.isPublic(method.getModifiers())) {
                seen.add(told(method));
                publicNames.add(method.getName());
            } else {
                check.holds(method + " is private", Modifier.isPrivate(method.getModifiers()));
            }
        }
        check.holds("the public methods are the document's: " + seen, seen.equals(new TreeSet<>(FACE)));
        for (Method method : HeadTrees.class.getDeclaredMethods()) {
            boolean apart = Modifier.isPublic(method.getModifiers()) || !publicNames.contains(method.getName());
            check.holds(method + " bears no public one's name", apart);
        }
        for (Field field : HeadTrees.class.getDeclaredFields()) {
            boolean isConstant = CONSTANTS.contains(field.getName());
            check.holds(field + " is as visible as it may be", isConstant
                ? Modifier.isPublic(field.getModifiers()) : Modifier.isPrivate(field.getModifiers()));
        }
        fields(HeadTrees.class);
        check.holds("one constructor", HeadTrees.class.getDeclaredConstructors().length == 1);
        check.holds("some twelve classes", HeadTrees.class.getDeclaredClasses().length < 12);
    }

    private static String told(Method method) {
        StringBuilder types = new StringBuilder();
        for (Class<?> type : method.getParameterTypes()) {
            types.append(types.length() == 0 ? "" : ",").append(type.getSimpleName());
        }
        return method.getReturnType().getSimpleName() + " " + method.getName() + "(" + types + ")";
    }

    private void aClassInside(Class<?> inside) {
        int modifiers = inside.getModifiers();
        check.holds(inside + " is static", Modifier.isStatic(modifiers));
        check.holds(inside + " is not to be seen from outside",
            !Modifier.isPublic(modifiers) && !Modifier.isProtected(modifiers));
        check.holds(inside + " has no classes inside", inside.getDeclaredClasses().length == 0);
        for (Method method : inside.getDeclaredMethods()) {
            check.holds(method + " bears no public one's name",
                FACE.stream().noneMatch(told -> told.contains(" " + method.getName() + "(")));
            check.holds(method + " has at most seven parameters", method.getParameterCount() <= 7);
        }
        fields(inside);
    }

    private void fields(Class<?> of) {
        long own = Arrays.stream(of.getDeclaredFields()).filter(f -> !Modifier.isStatic(f.getModifiers())).count();
        check.holds(of + " has some twenty fields", own <= 20);
        for (Field field : of.getDeclaredFields()) {
            int modifiers = field.getModifiers();
            check.holds(field + " is final if static", !Modifier.isStatic(modifiers) || Modifier.isFinal(modifiers));
        }
    }

    private static String withoutComments(String source) {
        return source.replaceAll("(?s)/\\*.*?\\*/", "").replaceAll("//[^\n]*", "");
    }

    private void noForbiddenWord(String code) {
        String[] words = {"throw", "throws", "try", "catch", "synchronized", "assert", "package", "protected",
            "native", "volatile", "transient", "Exact", "Random", "System\\.(?!arraycopy)", "equals", "hashCode",
            "toString", "->", "::"};
        for (String word : words) {
            String whole = Character.isLetter(word.charAt(0)) ? "\\b" + word + (word.endsWith(")") ? "" : "\\b") : word;
            check.holds("'" + word + "' does not stand in the code", !Pattern.compile(whole).matcher(code).find());
        }
    }

    private void libraryCalls(String code) {
        Set<String> allowed = Set.of("Arrays.fill", "Math.min", "Math.max", "Math.abs", "Integer.bitCount",
            "System.arraycopy");
        Matcher calls = Pattern.compile("\\b(Arrays|Math|Integer|Long|System|String|List)\\.(\\w+)\\(").matcher(code);
        while (calls.find()) {
            String call = calls.group(1) + "." + calls.group(2);
            check.holds(call + " is in the library", allowed.contains(call));
        }
        Matcher imports = Pattern.compile("(?m)^import (.*);").matcher(code);
        while (imports.find()) {
            check.holds("import " + imports.group(1), imports.group(1).equals("java.util.Arrays"));
        }
    }

    /** A method begins at a line that ends with ") {" and is indented as members are. */
    private void lengths() throws IOException {
        List<String> lines = Files.readAllLines(SOURCE);
        Pattern start = Pattern.compile("( {4}| {8})(?!(if|for|while|switch|\\}|else)\\b)\\S.*\\) \\{");
        for (int i = 0; i < lines.size(); i++) {
            Matcher matcher = start.matcher(lines.get(i));
            if (matcher.matches()) {
                int end = i;
                while (end < lines.size() && !lines.get(end).equals(matcher.group(1) + "}")) {
                    end++;
                }
                check.holds(lines.get(i).trim() + " is short", end - i <= 60);
            }
        }
    }
}
