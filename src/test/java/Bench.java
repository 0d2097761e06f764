/** An object under test, texts put in and out of it, and a tally of wrong answers. */
final class Bench {
    private static int asked = 0;
    private static int wrong = 0;

    final CommittedParsers x = new CommittedParsers();

    static void due(String what, long got, long want) {
        asked++;
        if (got != want) {
            wrong++;
            System.out.println(what + " answered " + got + ", due is " + want);
        }
    }

    static void due(String what, String got, String want) {
        asked++;
        if (!got.equals(want)) {
            wrong++;
            System.out.println(what + " answered " + got + ", due is " + want);
        }
    }

    static void finish(String name) {
        System.out.println(name + ": " + asked + " answers, " + wrong + " wrong");
        if (wrong > 0 || asked == 0) {
            System.exit(1);
        }
    }

    void feed(String text) {
        for (int k = 0; k < text.length(); k += 4) {
            int n = Math.min(4, text.length() - k);
            int word = 0;
            for (int b = 0; b < n; b++) {
                word |= (text.charAt(k + b) & 255) << 8 * b;
            }
            if (x.feed(n, word) < 0) {
                throw new IllegalStateException("the tape has no room for " + text);
            }
        }
    }

    int grammar(String text) {
        feed(text);
        return x.grammar();
    }

    int input(String text) {
        feed(text);
        return x.input();
    }

    /** The grammar is read by a new object. */
    static Bench of(String grammar) {
        Bench bench = new Bench();
        int got = bench.grammar(grammar);
        if (got < 1) {
            due("grammar " + grammar, got, 1);
        }
        return bench;
    }

    /** Parses rule A at 0 of the input. */
    int parse(String input) {
        input(input);
        return x.parse(0, 0);
    }

    String text() {
        StringBuilder text = new StringBuilder();
        for (int k = 0; x.text(k) >= 0; k++) {
            text.append((char) x.text(k));
        }
        return text.toString();
    }

    /** Where it is done or how it fails, far, wanted, steps, answered by memory, sharp, nodes. */
    String parsed(String input) {
        StringBuilder all = new StringBuilder();
        all.append(parse(input));
        for (int what = 0; what <= 5; what++) {
            all.append(' ').append(x.told(what));
        }
        return all.toString();
    }

    /** The answer and the text of the tree. */
    String made(String input) {
        return parse(input) + " " + text();
    }
}
