import java.util.LinkedHashSet;
import java.util.Set;

/** An object under test, texts put in and out of it, and a tally of wrong answers. */
final class Bench {
    private static final Set<String> BROKEN = new LinkedHashSet<>();
    private static String heading = "";
    private static int asked = 0;
    private static int wrong = 0;

    final Parsers x = new Parsers();

    /** What is asked from now on stands under this title. */
    static void begin(String title) {
        heading = title;
    }

    static int asked() {
        return asked;
    }

    /** The titles under which an answer was wrong. */
    static Set<String> broken() {
        return BROKEN;
    }

    static void due(String what, long got, long want) {
        due(what, Long.toString(got), Long.toString(want));
    }

    static void due(String what, String got, String want) {
        asked++;
        if (!got.equals(want)) {
            wrong++;
            BROKEN.add(heading);
            System.out.println((heading.isEmpty() ? "" : heading + ": ") + what + " answered " + got + ", due is " + want);
        }
    }

    static void finish(String name) {
        System.out.println(name + ": " + asked + " answers, " + wrong + " wrong");
        if (wrong > 0 || asked == 0) {
            System.exit(1);
        }
    }

    void feed(String text) {
        for (int k = 0; k < text.length(); k += 4) {
            int n = Math.min(4, text.length() - k);
            int word = 0;
            for (int b = 0; b < n; b++) {
                word |= (text.charAt(k + b) & 255) << 8 * b;
            }
            if (x.feed(n, word) < 0) {
                throw new IllegalStateException("the tape has no room for " + text);
            }
        }
    }

    int grammar(String text) {
        feed(text);
        return x.grammar();
    }

    int input(String text) {
        feed(text);
        return x.input();
    }

    /** The grammar is read by a new object. */
    static Bench of(String grammar) {
        Bench bench = new Bench();
        int got = bench.grammar(grammar);
        if (got < 1) {
            due("grammar " + grammar, got, 1);
        }
        return bench;
    }

    /** Parses rule A at 0 of the input. */
    int parse(String input) {
        input(input);
        return x.parse(0, 0);
    }

    String text() {
        StringBuilder text = new StringBuilder();
        int sign = x.text(0);
        while (sign >= 0) {
            text.append((char) sign);
            sign = x.text(text.length());
        }
        return text.toString();
    }

    /** Where it is done or how it fails, far, wanted, steps, answered by memory, sharp, nodes. */
    String parsed(String input) {
        return parse(input) + " " + told();
    }

    /** What told answers, from 0 to 5. */
    String told() {
        StringBuilder all = new StringBuilder();
        for (int what = 0; what <= 5; what++) {
            all.append(what == 0 ? "" : " ").append(x.told(what));
        }
        return all.toString();
    }

    /** The answer and the text of the tree. */
    String made(String input) {
        return parse(input) + " " + text();
    }

    /** All that count answers. */
    String counts() {
        StringBuilder all = new StringBuilder();
        for (int what = 0; what <= 4; what++) {
            all.append(what == 0 ? "" : " ").append(x.count(what));
        }
        return all.toString();
    }
}
