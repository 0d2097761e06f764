import java.util.Arrays;
import java.util.Random;

/** Drawn grammars and inputs: the class answers every call as the model does. */
public final class ModelTest {
    private static final int[] ENDS = {-5, -6, -15, -16, -17, -18, -19};

    private final Random random;
    private final int[] seen = new int[ENDS.length];
    private int done = 0, faults = 0, read = 0, big = 0, calls = 0, ended = 0;
    private int wrong = 0;
    private boolean finished = false;
    private Model model;
    private Parsers real;
    private StringBuilder story;

    private ModelTest(long seed) {
        random = new Random(seed);
    }

    public static void main(String[] args) throws InterruptedException {
        long seed = args.length > 0 ? Long.parseLong(args[0]) : 1;
        int runs = args.length > 1 ? Integer.parseInt(args[1]) : 20000;
        ModelTest test = new ModelTest(seed);
        // The model lists its trees by recursion.
        Thread thread = new Thread(null, () -> test.all(runs), "model", 1L << 29);
        thread.start();
        thread.join();
        System.out.println("calls " + test.calls + ", grammars " + test.read + ", faults " + test.faults + ", done " + test.done
            + ", objects used up " + test.ended + ", ends " + Arrays.toString(ENDS) + " " + Arrays.toString(test.seen) + ", large trees " + test.big);
        boolean thin = runs >= 20000 && Arrays.stream(test.seen).min().getAsInt() == 0;
        if (thin) System.out.println("an end was never reached");
        if (test.wrong > 0 || thin || !test.finished) System.exit(1);
    }

    private void all(int runs) {
        for (int k = 0; k < runs && wrong < 5; k++) {
            model = new Model();
            real = new Parsers();
            story = new StringBuilder();
            try {
                if (k % 4 == 3) wild();
                else run(k);
            } catch (Parsers.UsedUp end) {
                ended++;
            }
        }
        finished = true;
    }

    private void run(int k) {
        int left = 1 + random.nextInt(4);
        for (int g = 0; g < left && wrong == 0; g++) {
            String text = grammarText(k);
            if (random.nextInt(4) == 0) text = broken(text);
            enter(text);
            same("grammar " + text, model.grammar(), real.grammar());
            // A fault leaves what was parsed, a grammar that is read doesn't.
            if (random.nextInt(3) == 0) lookAround();
            about();
            int inputs = 1 + random.nextInt(4);
            for (int i = 0; i < inputs; i++) {
                String input = inputText();
                enter(input);
                same("input " + input, model.input(), real.input());
                parses(input.length());
            }
            drawings();
        }
    }

    private void enter(String text) {
        for (int k = 0; k < text.length(); k += 4) {
            int n = Math.min(4, text.length() - k);
            int word = 0;
            for (int b = 0; b < n; b++) word |= text.charAt(k + b) << 8 * b;
            if (n < 4) word |= random.nextInt() << 8 * n;
            int got = real.feed(n, word);
            same("feed", model.feed(n, word), got);
            if (got < 0) throw new IllegalStateException("too long: " + text.length());
        }
    }

    private void about() {
        for (int k = 0; k < 16; k++) {
            int rule = random.nextInt(5), what = 1 + random.nextInt(3);
            if (k % 8 == 0) rule = random.nextInt(10) - 1;
            if (k % 8 == 1) what = random.nextInt(6) - 1;
            same("rule " + rule + " " + what, model.rule(rule, what), real.rule(rule, what));
        }
        int atoms = model.count(1);
        for (int k = 0; k < 12; k++) {
            int atom = random.nextInt(atoms + 2) - (k % 6 == 0 ? 1 : 0), what = random.nextInt(4);
            if (k % 6 == 1) what = random.nextInt(6) - 1;
            same("atom " + atom + " " + what, model.atom(atom, what), real.atom(atom, what));
        }
        counts();
    }

    private void counts() {
        for (int what = 0; what <= 4; what++) same("count " + what, model.count(what), real.count(what));
    }

    private void parses(int size) {
        int times = 1 + random.nextInt(5);
        for (int t = 0; t < times; t++) {
            int rule = random.nextInt(20) == 0 ? random.nextInt(12) - 2 : random.nextInt(3);
            int place = random.nextInt(3) > 0 ? 0 : random.nextInt(size + 3) - 1;
            int want = model.parse(rule, place);
            same("parse " + rule + " " + place, want, real.parse(rule, place));
            if (want >= 0) done++;
            for (int e = 0; e < ENDS.length; e++) if (ENDS[e] == want) seen[e]++;
            lookAround();
        }
        counts();
    }

    private void lookAround() {
        for (int what = 0; what <= 5; what++) same("told " + what, model.told(what), real.told(what));
        same("worth", model.worth(), real.worth());
        int many = Math.max(model.told(5), 0);
        if (many > 500) big++;
        int size = 0;
        while (model.text(size) >= 0) size++;
        // All of what is small, some of what is large.
        for (int k = 0; k < Math.min(many + 1, 8); k++) {
            int node = many < 8 ? k : k == 7 ? many : random.nextInt(many);
            for (int what = 0; what < 3; what++) same("node " + node + " " + what, model.node(node, what), real.node(node, what));
        }
        for (int k = 0; k < Math.min(size + 1, 16); k++) {
            int place = size < 16 ? k : k == 15 ? size : random.nextInt(size);
            same("text " + place, model.text(place), real.text(place));
        }
    }

    private static final int[] EDGES = {Integer.MIN_VALUE, -2, -1, 0, 0, 0, 1, 1, 2, 3, 4, 5, 7, 8, 9, 20, 21, 31, 32, 239, 240, 241,
        1999, 2000, Integer.MAX_VALUE};

    private int edge() {
        return EDGES[random.nextInt(EDGES.length)];
    }

    /** Any calls in any order, with any arguments, till the object is used up. */
    private void wild() {
        String tape = "";
        while (wrong == 0) {
            int a = edge(), b = edge(), c = random.nextInt(4) == 0 ? edge() : 1 + random.nextInt(20), d = random.nextInt(4) == 0 ? edge() : 3;
            switch (random.nextInt(16)) {
                case 0:
                    if (random.nextInt(20) == 0) same("grammar", model.grammar(), real.grammar());
                    break;
                case 1:
                    if (random.nextInt(20) == 0) same("input", model.input(), real.input());
                    break;
                case 2: same("parse " + a + " " + b, model.parse(a, b), real.parse(a, b)); break;
                case 3: same("told " + a, model.told(a), real.told(a)); break;
                case 4: same("node " + a + " " + b, model.node(a, b), real.node(a, b)); break;
                case 5: same("worth", model.worth(), real.worth()); break;
                case 6: same("text " + a, model.text(a), real.text(a)); break;
                case 7: same("rule " + a + " " + b, model.rule(a, b), real.rule(a, b)); break;
                case 8: same("atom " + a + " " + b, model.atom(a, b), real.atom(a, b)); break;
                case 9: same("drawn " + a + " " + b + " " + c + " " + d, model.drawn(a, b, c, d), real.drawn(a, b, c, d)); break;
                case 10: same("count " + a, model.count(a), real.count(a)); break;
                case 11:
                    if (random.nextInt(5) == 0) same("feed " + a, model.feed(a, b), real.feed(a, b));
                    break;
                default: tape = fed(tape);
            }
        }
    }

    /** Feeds the next bytes of a text that is a grammar, or nearly; answers what is left of it. */
    private String fed(String left) {
        String text = left;
        if (text.isEmpty()) {
            names = 1 + random.nextInt(3);
            text = grammarText(random.nextInt(400));
            int sort = random.nextInt(6);
            if (sort < 3) text = inputText();
            if (sort == 3) text = broken(text);
            isInput = sort < 3;
        }
        int n = Math.min(1 + random.nextInt(4), text.length());
        int word = random.nextInt();
        for (int b = 0; b < n; b++) word = word & ~(255 << 8 * b) | text.charAt(b) << 8 * b;
        if (n > 0) same("feed " + n, model.feed(n, word), real.feed(n, word));
        text = text.substring(n);
        if (text.isEmpty() && isInput) same("input", model.input(), real.input());
        else if (text.isEmpty()) same("grammar", model.grammar(), real.grammar());
        return text;
    }

    private void drawings() {
        int times = random.nextInt(3);
        for (int t = 0; t < times; t++) {
            int rule = random.nextInt(3), seed = random.nextInt(), n = random.nextInt(23) - 1, m = random.nextInt(23) - 1;
            if (random.nextBoolean()) n = 1 + random.nextInt(4);
            same("drawn " + rule + " " + seed + " " + n + " " + m, model.drawn(rule, seed, n, m), real.drawn(rule, seed, n, m));
        }
        lookAround();
        counts();
    }

    private void same(String call, int want, int got) {
        calls++;
        if (call.startsWith("grammar")) {
            if (want < 0) faults++;
            else read++;
        }
        if (story.length() < 20000 && (call.startsWith("gr") || call.startsWith("in") || call.startsWith("pa") || call.startsWith("dr"))) {
            story.append(call).append(" -> ").append(want).append('\n');
        }
        if (want != got && wrong < 5) {
            wrong++;
            System.out.println(story + call + ": model " + want + ", class " + got);
        }
    }

    // ---- what is drawn

    private static final char[] BYTES = {'a', 'b', 'a', 'b', 'c', '+', '-', '*', '1', (char) 200};

    private boolean isInput;
    private int names;
    private int depth;
    private int room;

    private String grammarText(int k) {
        String own = special(k % 40);
        if (own != null) return own;
        while (true) {
            names = 1 + random.nextInt(4);
            StringBuilder to = new StringBuilder();
            for (int r = 0; r < names; r++) {
                depth = 0;
                room = 10;
                blank(to);
                to.append((char) ('A' + r));
                blank(to);
                to.append('=');
                choice(to);
                blank(to);
                to.append(';');
            }
            blank(to);
            if (to.length() <= 240) return to.toString();
        }
    }

    /** Grammars for the ends that drawn ones seldom reach. */
    private String special(int k) {
        int c = random.nextInt(6);
        switch (k) {
            case 0: return "A=BBBBBBBB;B=CCCCCCCC;C=DDDDDDDD;D=EEEEEEEE;E='x'" + "?*+?*+".charAt(c) + ";";
            case 1: return "A=(any|digit)A" + "?|".charAt(c % 2) + ";B='a'" + (c < 3 ? "cut" : "") + "B|end;C=A B;";
            case 2: return "A=any((((((A))))))" + "?*?*?*".charAt(c) + "; B=((((((('a'B|as(end))))))))?;C=B*;";
            case 3: return "A=chain(B,'+'|'-'|'*');B=chain(C,'*');C=digit+|'(' cut A ')'|[ac];";
            case 4: return "A=chain(B,C);B=DDDDDDDD any;D=EEEEEEEE;E=FFFFFFFF" + "?*".charAt(c % 2) + ";F=end?;C='a'|digit cut?|look(any);";
            case 5: return "A=(B|any)*;B=" + "'a'".repeat(c) + "(A|any)'c';C=not(any A" + (c < 3 ? "cut" : "") + ")|as(any B)|any C;";
            case 6: return "A=chain(chain(chain(chain(any B?,'a'),'b'),'c'),cut);B=(A|any)+;C=try(cut any cut A)|A;";
            case 7: return "A=B*;B=not('a'C)any|as('b'A'c')|look(C)any;C=" + (c < 3 ? "any*" : "any C?") + ";";
            case 8: return "A=any*;B=(any any*)*;C=chain(any,any);";
            case 9: return "A=(digit|['~])* end;B=(C'b'?)*;C=(any" + (c < 3 ? "?" : "") + "look(C?))+;";
            default: return null;
        }
    }

    private void blank(StringBuilder to) {
        if (random.nextInt(12) == 0) to.append(' ');
    }

    private void choice(StringBuilder to) {
        int many = random.nextInt(3) == 0 ? 2 + random.nextInt(2) : 1;
        for (int k = 0; k < many; k++) {
            if (k > 0) {
                blank(to);
                to.append('|');
            }
            sequence(to);
        }
    }

    private void sequence(StringBuilder to) {
        int many = 1 + random.nextInt(3);
        for (int k = 0; k < many; k++) {
            part(to);
            blank(to);
            if (random.nextInt(4) == 0) to.append("*+??".charAt(random.nextInt(4)));
        }
    }

    private void word(StringBuilder to, String word) {
        char last = to.length() > 0 ? to.charAt(to.length() - 1) : '=';
        if (last >= 'a' && last <= 'z') to.append(' ');
        to.append(word);
        blank(to);
    }

    private void part(StringBuilder to) {
        blank(to);
        room--;
        int sort = random.nextInt(room > 0 && depth < 9 ? 20 : 11);
        char one = BYTES[random.nextInt(BYTES.length)], two = BYTES[random.nextInt(BYTES.length)];
        if (sort < 5) to.append('\'').append(one).append('\'');
        else if (sort == 5) to.append('[').append(one < two ? one : two).append(one < two ? two : one).append(']');
        else if (sort == 6) word(to, "digit");
        else if (sort == 7) word(to, "any");
        else if (sort == 8) word(to, random.nextInt(3) == 0 ? "end" : "cut");
        else if (sort < 11) to.append((char) ('A' + random.nextInt(names)));
        else {
            depth++;
            String[] words = {"", "", "", "try", "not", "look", "as", "as", "chain"};
            String word = words[random.nextInt(words.length)];
            if (!word.isEmpty()) word(to, word);
            to.append('(');
            choice(to);
            if (word.equals("chain")) {
                blank(to);
                to.append(',');
                choice(to);
            }
            blank(to);
            to.append(')');
            depth--;
        }
    }

    private String broken(String text) {
        StringBuilder to = new StringBuilder(text);
        int times = 1 + random.nextInt(2);
        for (int k = 0; k < times && to.length() > 0; k++) {
            int place = random.nextInt(to.length());
            char sign = "'[](),;=|*+?AHIdigitnotcutz 1".charAt(random.nextInt(29));
            switch (random.nextInt(4)) {
                case 0: to.deleteCharAt(place); break;
                case 1: to.setCharAt(place, sign); break;
                case 2: if (to.length() < 240) to.insert(place, sign); break;
                default: if (random.nextInt(3) == 0) to.setLength(place);
            }
        }
        return to.toString();
    }

    private String inputText() {
        int size = random.nextInt(10) == 0 ? random.nextInt(241) : random.nextInt(12);
        StringBuilder to = new StringBuilder();
        int many = 1 + random.nextInt(BYTES.length);
        for (int k = 0; k < size; k++) to.append(BYTES[random.nextInt(many)]);
        return to.toString();
    }
}
