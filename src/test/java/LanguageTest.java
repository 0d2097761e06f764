import java.io.IOException;
import java.nio.file.Files;
import java.nio.file.Path;
import java.util.regex.Matcher;
import java.util.regex.Pattern;

/** Those rules of ../shared/LANGUAGE.md that the text of the class alone can show broken. */
public final class LanguageTest {
    private static final String FACE = "feed|grammar|input|parse|told|node|worth|text|rule|atom|drawn|count";

    public static void main(String[] args) throws IOException {
        String source = Files.readString(Path.of("src/main/java/CommittedParsers.java"));
        String code = source.replaceAll("(?s)/\\*.*?\\*/", "").replaceAll("//[^\\n]*", "");
        none(code, "->|::", "a lambda, a method reference, a switch with arrows (rules 2, 6)");
        none(code, "\\b(throw|throws|try|catch|finally|assert|synchronized|instanceof|record|var)\\b(?!\")", "rule 6");
        none(code, "\\b(Exact|Random|System\\.(?!arraycopy)|Thread|File)\\w*", "rules 4 and 13");
        none(code, "import (?!java\\.util\\.Arrays;)", "an import (rule 4)");
        none(code, "\\bpackage\\b", "a package (the language's head)");
        none(code, "static (?!final|int [a-z]|boolean [a-z]|long [a-z])", "a static that is not final (rule 5)");
        none(code, "private (static )?(final )?[\\w\\[\\]]+ (" + FACE + ")\\(", "a private method with a public one's name (rule 1)");
        none(code, "(?m)^ {8}[\\w\\[\\] ]+ (" + FACE + ")\\([^;]*\\{", "an inner method with a public one's name (rule 1)");
        none(code, "(?m)^ {4}(?!private|public|\\}|@)[\\w]", "a member of the outer class that is neither private nor public (rule 1)");
        Bench.due("classes within", count(code, "\\bclass\\b") > 12 ? 1 : 0, 0);
        lengths(source);
        Bench.finish("LanguageTest");
    }

    private static void none(String code, String pattern, String what) {
        Matcher matcher = Pattern.compile(pattern).matcher(code);
        Bench.due(what, matcher.find() ? matcher.group() : "none", "none");
    }

    private static int count(String code, String pattern) {
        return (int) Pattern.compile(pattern).matcher(code).results().count();
    }

    /** No method is longer than sixty lines (rule 11). */
    private static void lengths(String source) {
        String[] lines = source.split("\n");
        int from = -1;
        for (int k = 0; k < lines.length; k++) {
            if (lines[k].matches(" {4,8}[\\w].*\\) \\{")) {
                from = k;
            } else if (lines[k].matches(" {4,8}\\}") && from >= 0) {
                Bench.due("lines of " + lines[from].trim(), k - from > 60 ? k - from : 0, 0);
                from = -1;
            }
        }
    }
}
