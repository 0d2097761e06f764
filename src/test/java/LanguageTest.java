import java.io.IOException;
import java.lang.reflect.Constructor;
import java.lang.reflect.Field;
import java.lang.reflect.Method;
import java.lang.reflect.Modifier;
import java.nio.file.Files;
import java.nio.file.Path;
import java.util.ArrayList;
import java.util.Arrays;
import java.util.List;
import java.util.Map;
import java.util.Set;
import java.util.TreeMap;
import java.util.TreeSet;
import java.util.regex.Matcher;
import java.util.regex.Pattern;

/** Those rules of ../shared/LANGUAGE.md that the class itself or its text can show broken. */
public final class LanguageTest {
    private static final String[] FACE = {"atom(int,int)", "count(int)", "drawn(int,int,int,int)", "feed(int,int)", "grammar()", "input()",
        "node(int,int)", "parse(int,int)", "rule(int,int)", "text(int)", "told(int)", "worth()"};
    private static final String[] CONSTANTS = {"BAD=-2", "BIG=-19", "DEEP=-18", "FULL=-4", "LOOP=-15", "NONE=-1", "RING=-16", "STATE=-3",
        "STEPS=-17"};
    private static final String THROWN = "IllegalStateException|IllegalArgumentException|IndexOutOfBoundsException|ArithmeticException"
        + "|UnsupportedOperationException|NoSuchElementException|RuntimeException";

    public static void main(String[] args) throws IOException, IllegalAccessException {
        String source = Files.readString(Path.of("src/main/java/CommittedParsers.java"));
        String code = source.replaceAll("(?s)/\\*.*?\\*/", "").replaceAll("//[^\\n]*", "");
        face();
        classes();
        statics();
        words(code);
        sizes(source);
        depths(code);
        Bench.finish("LanguageTest");
    }

    private static List<Class<?>> all() {
        List<Class<?>> all = new ArrayList<>();
        all.add(CommittedParsers.class);
        all.addAll(Arrays.asList(CommittedParsers.class.getDeclaredClasses()));
        return all;
    }

    /** Rule 1: the face, and no other member that can be seen from outside. */
    private static void face() throws IllegalAccessException {
        Bench.begin("rule 1");
        Class<?> outer = CommittedParsers.class;
        Bench.due("public and final", Modifier.toString(outer.getModifiers()), "public final");
        Bench.due("constructors", outer.getDeclaredConstructors().length, 1);
        for (Constructor<?> one : outer.getDeclaredConstructors()) {
            Bench.due("its constructor", Modifier.toString(one.getModifiers()) + one.getParameterCount(), "public0");
        }
        Set<String> names = new TreeSet<>(), methods = new TreeSet<>(), fields = new TreeSet<>();
        for (Method one : outer.getDeclaredMethods()) {
            if (!Modifier.isPrivate(one.getModifiers()) && !one.isSynthetic()) {
                names.add(one.getName());
                methods.add(one.getName() + Arrays.toString(one.getParameterTypes()).replace("[", "(").replace("]", ")").replace(" ", ""));
                Bench.due(one.getName(), Modifier.toString(one.getModifiers()) + " " + one.getReturnType(), "public int");
            }
        }
        for (Field one : outer.getDeclaredFields()) {
            if (!Modifier.isPrivate(one.getModifiers()) && !one.isSynthetic()) {
                fields.add(one.getName() + "=" + one.get(null));
                Bench.due(one.getName(), Modifier.toString(one.getModifiers()) + " " + one.getType(), "public static final int");
            }
        }
        Bench.due("methods", methods.toString(), Arrays.toString(FACE));
        Bench.due("constants", fields.toString(), Arrays.toString(CONSTANTS));
        for (Class<?> one : all()) {
            for (Method method : one.getDeclaredMethods()) {
                boolean hidden = Modifier.isPrivate(method.getModifiers()) && !method.isSynthetic();
                Bench.due("private " + method.getName() + " bears a public one's name", hidden && names.contains(method.getName()) ? 1 : 0, 0);
            }
        }
    }

    /** Rules 1 and 11: classes inside are private or package-visible, at most some twelve, of at most some twenty fields. */
    private static void classes() {
        Bench.begin("rules 1 and 11");
        Bench.due("more than twelve classes", all().size() > 13 ? all().size() : 0, 0);
        for (Class<?> one : CommittedParsers.class.getDeclaredClasses()) {
            Bench.due("seen from outside " + one.getSimpleName(), one.getModifiers() & (Modifier.PUBLIC | Modifier.PROTECTED), 0);
        }
        for (Class<?> one : all()) {
            int fields = 0;
            for (Field field : one.getDeclaredFields()) {
                fields += Modifier.isStatic(field.getModifiers()) || field.isSynthetic() ? 0 : 1;
            }
            Bench.due("fields of " + one.getSimpleName(), fields > 20 ? fields : 0, 0);
            for (Method method : one.getDeclaredMethods()) {
                Bench.due("parameters of " + method.getName(), method.getParameterCount() > 7 ? 1 : 0, 0);
            }
        }
    }

    /** Rule 5: static fields are final and of the sorts that may be. */
    private static void statics() {
        Bench.begin("rule 5");
        for (Class<?> one : all()) {
            for (Field field : one.getDeclaredFields()) {
                if (Modifier.isStatic(field.getModifiers()) && !field.isSynthetic() && !one.isEnum()) {
                    Bench.due("final " + field.getName(), Modifier.isFinal(field.getModifiers()) ? 1 : 0, 1);
                    String sort = field.getType().getSimpleName();
                    Bench.due("sort of " + field.getName(), sort.matches("int|long|boolean|char|String|(int|long|char|byte)\\[\\]") ? "" : sort, "");
                }
            }
        }
    }

    /** What may not stand in the text. */
    private static void words(String code) {
        none(code, "the head: a package", "(?m)^\\s*package\\b");
        none(code, "rule 2: a lambda or a method reference", "->|::");
        none(code, "rule 3: float sums by Math", "\\bMath\\.(sqrt|pow|floor|ceil|round|sin|cos|exp|log)\\b");
        none(code, "rule 4: an import", "import (?!java\\.util\\.(Arrays|ArrayList|List|Iterator|NoSuchElementException);)[^;]*;");
        none(code, "rule 4: a library's function", "\\bMath\\.\\w+Exact\\b|\\bSystem\\.(?!arraycopy\\b)\\w+|\\bString\\.\\w+|\\bObjects\\b");
        none(code, "rule 5: a static block", "\\bstatic\\s*\\{");
        none(code, "rule 6: a word", "\\b(finally|synchronized|assert|throws)\\b");
        none(code, "rule 6: another throw", "\\bthrow\\b(?! new (" + THROWN + ")\\((\"[^\"]*\")?\\);)");
        none(code, "rule 6: another catch", "\\bcatch\\s*\\((?!(" + THROWN + ") )");
        none(code, "rule 6: try with resources", "\\btry\\s*\\(");
        none(code, "rule 9: a loop without an end", "while\\s*\\(\\s*true\\s*\\)|for\\s*\\([^;]*;\\s*;");
        none(code, "rule 10: texts joined by +", "\"\\s*\\+|\\+\\s*\"");
        none(code, "rule 13: the world outside", "\\b(Random|Thread|Runtime|Process\\w*|File\\w*|Path|Socket|currentTimeMillis|nanoTime)\\b");
        none(code, "the machine's own exceptions", "\\b(ArrayIndexOutOfBounds|NullPointer|ClassCast|NegativeArraySize|ArrayStore)Exception\\b");
    }

    private static void none(String code, String what, String pattern) {
        Bench.begin(what);
        Matcher matcher = Pattern.compile(pattern).matcher(code);
        Bench.due("found", matcher.find() ? matcher.group().trim() : "nothing", "nothing");
    }

    /** Rule 11: methods stay short, some sixty lines. */
    private static void sizes(String source) {
        Bench.begin("rule 11");
        String[] lines = source.split("\n");
        int from = -1;
        for (int k = 0; k < lines.length; k++) {
            if (lines[k].matches(" {4,8}[\\w].*\\) \\{")) {
                from = k;
            } else if (lines[k].matches(" {4,8}\\}") && from >= 0) {
                Bench.due("lines of " + lines[from].trim(), k - from > 65 ? k - from : 0, 0);
                from = -1;
            }
        }
    }

    /** Rule 11: calls that are no recursion go at most eight deep; of methods of one name all are meant. */
    private static void depths(String code) {
        Bench.begin("rule 11");
        Map<String, Set<String>> calls = calls(code);
        Map<String, Set<String>> reached = new TreeMap<>();
        for (String one : calls.keySet()) {
            reached.put(one, reachedFrom(one, calls));
        }
        for (String one : FACE) {
            String name = one.substring(0, one.indexOf('('));
            Bench.due("calls of " + name, calls.containsKey(name) ? 1 : 0, 1);
            int deep = depth(name, calls, reached);
            Bench.due("methods below one another from " + name, deep > 8 ? deep : 0, 0);
        }
    }

    /** What each method's text calls of the methods of the file. */
    private static Map<String, Set<String>> calls(String code) {
        Map<String, String> texts = new TreeMap<>();
        Matcher heads = Pattern.compile("(?m)^( {4}| {8})(?:[\\w\\[\\]]+ )*(\\w+)\\([^;]*?\\) \\{$").matcher(code);
        while (heads.find()) {
            int end = code.indexOf("\n" + heads.group(1) + "}", heads.end());
            texts.merge(heads.group(2), code.substring(heads.end(), end), String::concat);
        }
        Map<String, Set<String>> calls = new TreeMap<>();
        for (String one : texts.keySet()) {
            Set<String> its = new TreeSet<>();
            Matcher named = Pattern.compile("\\b(\\w+)\\(").matcher(texts.get(one));
            while (named.find()) {
                its.add(named.group(1));
            }
            its.retainAll(texts.keySet());
            calls.put(one, its);
        }
        return calls;
    }

    private static Set<String> reachedFrom(String from, Map<String, Set<String>> calls) {
        Set<String> seen = new TreeSet<>();
        List<String> todo = new ArrayList<>(calls.get(from));
        while (!todo.isEmpty()) {
            String one = todo.remove(todo.size() - 1);
            if (seen.add(one)) {
                todo.addAll(calls.get(one));
            }
        }
        return seen;
    }

    /** Methods that come to one another are one recursion, and count once. */
    private static int depth(String from, Map<String, Set<String>> calls, Map<String, Set<String>> reached) {
        Set<String> out = new TreeSet<>();
        for (String one : calls.keySet()) {
            boolean together = one.equals(from) || reached.get(from).contains(one) && reached.get(one).contains(from);
            if (together) {
                out.addAll(calls.get(one));
            }
        }
        int most = 0;
        for (String one : out) {
            if (!one.equals(from) && !reached.get(one).contains(from)) {
                most = Math.max(most, depth(one, calls, reached));
            }
        }
        return most + 1;
    }
}
