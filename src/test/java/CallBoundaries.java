import java.util.List;

/** Boundaries of promises 1, 2, 4, 12 and 13: a new object, the tape, the input, what is drawn, the counts. */
final class CallBoundaries {
    private static final int MIN = Integer.MIN_VALUE, MAX = Integer.MAX_VALUE;

    private CallBoundaries() {
    }

    static List<Sentence> sentences() {
        return List.of(
            new Sentence(1, "NONE = -1, BAD = -2, STATE = -3, FULL = -4", CallBoundaries::constants),
            new Sentence(1, "LOOP = -15, RING = -16, STEPS = -17, DEEP = -18, BIG = -19", CallBoundaries::ends),
            new Sentence(1, "No GRAMMAR, INPUT is empty.", CallBoundaries::newObject),
            new Sentence(1, "An object is used for at most 512 calls after it has been made", CallBoundaries::manyCalls),
            new Sentence(2, "n bytes (1 .. 4) of word", CallBoundaries::howManyBytes),
            new Sentence(2, "its lowest first", CallBoundaries::lowestFirst),
            new Sentence(2, "come behind THE TAPE: how many it has", CallBoundaries::behindTheTape),
            new Sentence(2, "BAD: n", CallBoundaries::badBytes),
            new Sentence(2, "THE TAPE: bytes (240 at most)", CallBoundaries::fullTape),
            new Sentence(2, "FULL: they have no room", CallBoundaries::noRoom),
            new Sentence(2, "Of several such answers of one call: BAD, else STATE, else NONE, else FULL.", CallBoundaries::badAheadOfFull),
            new Sentence(4, "INPUT: bytes (240 at most)", CallBoundaries::fullInput),
            new Sentence(4, "THE TAPE, which is empty then (by a FAULT, too), becomes INPUT: its size.", CallBoundaries::tapeBecomesInput),
            new Sentence(4, "What was PARSED is forgotten.", CallBoundaries::inputForgets),
            new Sentence(12, "n bytes (1 .. 20), m of them (1 .. 20)", CallBoundaries::howManyDrawn),
            new Sentence(12, "BAD: no such RULE, n, m", CallBoundaries::badDrawn),
            new Sentence(12, "with none: 48 .. 57 stand for them", CallBoundaries::noneQuoted),
            new Sentence(12, "By DRAWN, each ' ' of the GRAMMAR counts, also a byte twice.", CallBoundaries::quotedTwice),
            new Sentence(12, "z being the last one * 1103515245 + 12345 (an int; SEED at first)", CallBoundaries::seeds),
            new Sentence(12, "by how many the RULE is DONE at the end", CallBoundaries::doneAtTheEnd),
            new Sentence(12, "one that ends by LOOP, RING, STEPS, DEEP, BIG isn't DONE", CallBoundaries::drawnThatEnd),
            new Sentence(12, "INPUT, and what was PARSED, stay", CallBoundaries::drawnLeavesAll),
            new Sentence(12, "or behind 40000 of all (those of DRAWN, too; -17)", CallBoundaries::drawnWithoutSteps),
            new Sentence(13, "0 RULES, 1 ATOMS, 2 bytes of INPUT, 3 of THE TAPE, 4 STEPS of all PARSES", CallBoundaries::leastAndMost),
            new Sentence(13, "4 STEPS of all PARSES. BAD.", CallBoundaries::badCount));
    }

    private static void due(String what, long got, long want) {
        Bench.due(what, got, want);
    }

    private static void due(String what, String got, String want) {
        Bench.due(what, got, want);
    }

    // ---- promise 1

    /** Read anew, not as it was when this was compiled. */
    private static void constant(String name, int want) {
        try {
            due(name, CommittedParsers.class.getField(name).getInt(null), want);
        } catch (ReflectiveOperationException none) {
            due(name, "nothing", "" + want);
        }
    }

    private static void constants() {
        constant("NONE", -1);
        constant("BAD", -2);
        constant("STATE", -3);
        constant("FULL", -4);
    }

    private static void ends() {
        constant("LOOP", -15);
        constant("RING", -16);
        constant("STEPS", -17);
        constant("DEEP", -18);
        constant("BIG", -19);
    }

    private static void newObject() {
        Bench other = Bench.of("A='a';");
        other.parse("a");
        other.feed("x");
        Bench bench = new Bench();
        due("counts", bench.counts(), "0 0 0 0 0");
        for (int rule = 0; rule < 8; rule++) {
            due("rule there", bench.x.rule(rule, 0), 0);
            due("rule's atoms", bench.x.rule(rule, 3), -1);
            due("parse", bench.x.parse(rule, 0), -2);
            due("drawn", bench.x.drawn(rule, 1, 1, 1), -2);
        }
        due("atom", bench.x.atom(0, 0), -1);
        due("told", bench.told(), "-3 -3 -3 -3 -3 -3");
        due("node", bench.x.node(0, 0), -3);
        due("worth", bench.x.worth(), -3);
        due("text", bench.x.text(0), -3);
        bench.grammar("A=end;");
        due("at the end of an empty input", bench.x.parse(0, 0), 0);
        due("behind it", bench.x.parse(0, 1), -2);
    }

    private static void manyCalls() {
        Bench bench = Bench.of("A=any B;B=digit?;");
        bench.input("x7");
        // By now the grammar's 17 bytes have taken 5 calls and one, the input's one and one.
        for (int call = 9; call <= 510; call++) {
            due("call " + call, bench.x.parse(0, 0), 2);
        }
        due("call 511", bench.x.count(4), 502 * 3);
        due("call 512", bench.x.parse(0, 0), 2);
    }

    // ---- promise 2

    /** The byte of the input at a place. */
    private static int byteAt(Bench bench, int place) {
        return bench.x.parse(0, place) == place + 1 ? bench.x.node(0, 1) : -1;
    }

    private static void howManyBytes() {
        for (int n = 1; n <= 4; n++) {
            Bench bench = Bench.of("A=any;");
            due("feed " + n, bench.x.feed(n, 0x44434241), n);
            due("input", bench.x.input(), n);
            for (int place = 0; place < n; place++) {
                due("byte " + place + " of " + n, byteAt(bench, place), 0x41 + place);
            }
            due("no more", byteAt(bench, n), -1);
        }
    }

    private static void lowestFirst() {
        Bench bench = Bench.of("A=any;");
        bench.x.feed(4, 0x80FF017F);
        bench.x.feed(1, -1);
        bench.x.feed(2, MIN);
        bench.x.feed(4, MIN);
        due("input", bench.x.input(), 11);
        int[] want = {0x7F, 0x01, 0xFF, 0x80, 0xFF, 0, 0, 0, 0, 0, 0x80};
        for (int place = 0; place < want.length; place++) {
            due("byte " + place, byteAt(bench, place), want[place]);
        }
    }

    private static void behindTheTape() {
        Bench bench = Bench.of("A=any;");
        due("the first", bench.x.feed(1, 'p'), 1);
        due("behind it", bench.x.feed(2, 'q' | 'r' << 8), 3);
        due("behind them", bench.x.feed(4, 's' | 't' << 8 | 'u' << 16 | 'v' << 24), 7);
        bench.x.input();
        for (int place = 0; place < 7; place++) {
            due("byte " + place, byteAt(bench, place), 'p' + place);
        }
        due("empty again", bench.x.feed(3, 0), 3);
    }

    private static void badBytes() {
        Bench bench = new Bench();
        bench.feed("xyz");
        for (int n : new int[] {0, 5, -1, 8, -4, MIN, MAX}) {
            due("feed " + n, bench.x.feed(n, 65), -2);
            due("the tape after it", bench.x.count(3), 3);
        }
    }

    private static void fullTape() {
        Bench fours = new Bench();
        for (int k = 1; k <= 60; k++) {
            due("feed 4", fours.x.feed(4, k), 4 * k);
        }
        Bench ones = new Bench();
        for (int k = 1; k <= 240; k++) {
            due("feed 1", ones.x.feed(1, k), k);
        }
        due("the 241st", ones.x.feed(1, 0), -4);
        due("240 of them", ones.x.input(), 240);
    }

    private static void noRoom() {
        for (int left = 0; left <= 4; left++) {
            for (int n = 1; n <= 4; n++) {
                Bench bench = Bench.of("A=any;");
                bench.feed("a".repeat(240 - left));
                String what = "feed " + n + " where " + left + " have room";
                due(what, bench.x.feed(n, 0x62626262), n > left ? -4 : 240 - left + n);
                due(what + ": the tape", bench.x.count(3), n > left ? 240 - left : 240 - left + n);
            }
        }
        Bench bench = Bench.of("A=any;");
        bench.feed("a".repeat(238));
        due("none of three", bench.x.feed(3, 0x626262), -4);
        due("two", bench.x.feed(2, 0x6363), 240);
        bench.x.input();
        due("the last of before", byteAt(bench, 237), 'a');
        due("the first of what had room", byteAt(bench, 238), 'c');
        due("room again", bench.x.feed(4, 0), 4);
    }

    private static void badAheadOfFull() {
        Bench bench = new Bench();
        bench.feed("a".repeat(240));
        due("5 where there is no room", bench.x.feed(5, 0), -2);
        due("0 where there is no room", bench.x.feed(0, 0), -2);
        due("-1 where there is no room", bench.x.feed(-1, 0), -2);
        due("1 where there is no room", bench.x.feed(1, 0), -4);
    }

    // ---- promise 4

    private static void fullInput() {
        Bench bench = Bench.of("A=any;B=end;");
        due("240 bytes", bench.input("a".repeat(239) + "z"), 240);
        due("count", bench.x.count(2), 240);
        due("the last byte", byteAt(bench, 239), 'z');
        due("its end", bench.x.parse(1, 240), 240);
        due("behind it", bench.x.parse(1, 241), -2);
    }

    private static void tapeBecomesInput() {
        Bench bench = Bench.of("A=any;");
        due("three bytes", bench.input("xyz"), 3);
        due("the tape is empty", bench.x.count(3), 0);
        due("the first", byteAt(bench, 0), 'x');
        due("one byte", bench.input("q"), 1);
        due("it took the place of those", byteAt(bench, 0), 'q');
        due("nothing stayed behind it", bench.x.parse(0, 1), -5);
        due("no place stayed", bench.x.parse(0, 2), -2);
        due("an empty tape", bench.x.input(), 0);
        due("an empty input", bench.x.parse(0, 0), -5);
        due("has one place", bench.x.parse(0, 1), -2);
        bench.grammar("A");
        due("the tape is empty by a fault", bench.x.input(), 0);
        due("the grammar stays", bench.x.count(0), 1);
        bench.feed("ab");
        bench.x.input();
        bench.feed("c");
        due("a tape that is fed leaves the input", byteAt(bench, 0), 'a');
    }

    private static void inputForgets() {
        Bench bench = Bench.of("A=any;");
        bench.parse("x");
        due("told", bench.x.told(5), 1);
        bench.input("x");
        due("told", bench.told(), "-3 -3 -3 -3 -3 -3");
        due("node", bench.x.node(0, 0), -3);
        due("worth", bench.x.worth(), -3);
        due("text", bench.x.text(0), -3);
        bench.x.parse(0, 0);
        bench.x.input();
        due("by an empty one, too", bench.x.told(5), -3);
    }

    // ---- promise 12

    /** Bytes drawn by hand, as the document says it: a long kept to 32 bits in the place of an int. */
    private static String drawnByHand(String from, int seed, int bytes) {
        long z = seed & 0xFFFFFFFFL;
        StringBuilder to = new StringBuilder();
        for (int k = 0; k < bytes; k++) {
            z = z * 1103515245L + 12345 & 0xFFFFFFFFL;
            to.append(from.charAt((int) ((z >> 9) % from.length())));
        }
        return to.toString();
    }

    private static void howManyDrawn() {
        int[] edges = {1, 2, 19, 20};
        for (int n : edges) {
            for (int m : edges) {
                Bench bench = Bench.of("A=" + "any ".repeat(n) + ";B=A any;C=cut end?;");
                due(m + " of " + n, bench.x.drawn(0, 7, n, m), m);
                due("steps of " + m + " of " + n, bench.x.count(4), n * m);
                due("none has more bytes", bench.x.drawn(1, 7, n, m), 0);
                due("none has no bytes", bench.x.drawn(2, 7, n, m), 0);
            }
        }
    }

    private static void badDrawn() {
        Bench bench = Bench.of("A=any;H=any*;");
        int[][] bad = {{-1, 1, 1}, {8, 1, 1}, {1, 1, 1}, {6, 1, 1}, {MIN, 1, 1}, {MAX, 1, 1}, {0, 0, 1}, {0, 21, 1}, {0, -1, 1},
            {0, MIN, 1}, {0, MAX, 1}, {0, 1, 0}, {0, 1, 21}, {0, 1, -1}, {0, 1, MIN}, {0, 1, MAX}};
        for (int[] one : bad) {
            due("drawn " + one[0] + " 5 " + one[1] + " " + one[2], bench.x.drawn(one[0], 5, one[1], one[2]), -2);
        }
        due("no step was taken", bench.x.count(4), 0);
        due("the first rule", bench.x.drawn(0, 5, 1, 1), 1);
        due("the last rule", bench.x.drawn(7, 5, 20, 20), 20);
    }

    private static void noneQuoted() {
        // Ranges, digit and the rest are no ' '.
        Bench bench = Bench.of("A=digit*;B=[05]*;C=[09]any not(as(end));D=['']*;");
        due("all digits", bench.x.drawn(0, 3, 20, 20), 20);
        int[] want = {0, 0};
        for (int k = 0; k < 20; k++) {
            want[0] += drawnByHand("0123456789", 8, 40).substring(2 * k, 2 * k + 2).matches("[0-5]*") ? 1 : 0;
        }
        due("some of them", bench.x.drawn(1, 8, 2, 20), want[0]);
        Bench quoted = Bench.of("A=digit*;B='q'*;");
        due("with one there are no digits", quoted.x.drawn(0, 3, 20, 20), 0);
        due("with one it is always that", quoted.x.drawn(1, 3, 20, 20), 20);
    }

    /** How many of m drawn ones of n bytes are equal to a text, which is not quoted in the grammar. */
    private static int equal(String quoted, String text, int seed, int n, int m) {
        StringBuilder grammar = new StringBuilder("A=" + exactly(text) + ";B=");
        for (int k = 0; k < quoted.length(); k++) {
            grammar.append('\'').append(quoted.charAt(k)).append('\'');
        }
        return Bench.of(grammar + ";").x.drawn(0, seed, n, m);
    }

    private static void quotedTwice() {
        for (String quoted : new String[] {"ab", "aab", "aba", "baa", "aaaab", "zyzzyzzxz"}) {
            due("quoted " + quoted, equal(quoted, drawnByHand(quoted, 6, 20), 6, 20, 1), 1);
        }
        String late = drawnByHand("cab", 6, 20);
        String one = "A=B|(C('c'?));", other = "B='a'try(not('b'));", exact = "C=" + exactly(late) + ";";
        due("as they come, also in brackets and in other rules", Bench.of(one + other + exact).x.drawn(2, 6, 20, 1), 1);
        due("not by the rules' names", Bench.of(other + one + exact).x.drawn(2, 6, 20, 1), 0);
    }

    private static String exactly(String text) {
        StringBuilder to = new StringBuilder();
        for (char sign : text.toCharArray()) {
            to.append('[').append(sign).append(sign).append(']');
        }
        return to.toString();
    }

    private static void seeds() {
        for (int seed : new int[] {0, 1, -1, MIN, MAX, 1103515245, -12345, 0x55555555}) {
            String drawn = drawnByHand("abcde", seed, 40);
            due("seed " + seed, equal("abcde", drawn.substring(0, 20), seed, 20, 1), 1);
            due("another's", equal("abcde", drawn.substring(0, 20), seed + 1, 20, 1), 0);
            due("the second goes on", equal("abcde", drawn.substring(20), seed, 20, 2), 1);
            due("the second is not yet there", equal("abcde", drawn.substring(20), seed, 20, 1), 0);
        }
    }

    private static void doneAtTheEnd() {
        Bench bench = Bench.of("A=any any any;B=any any;C=any any any any;D=any any any end cut;E=any*look(any);F=cut any any'#';");
        due("at the end", bench.x.drawn(0, 1, 3, 20), 20);
        due("ahead of it", bench.x.drawn(1, 1, 3, 20), 0);
        due("behind it", bench.x.drawn(2, 1, 3, 20), 0);
        due("sharp at the end", bench.x.drawn(3, 1, 3, 20), 20);
        due("fails at the end", bench.x.drawn(4, 1, 3, 20), 0);
        due("sharp ahead of it", bench.x.drawn(5, 1, 3, 20), 20);
        due("one byte of two", Bench.of("A=any;").x.drawn(0, 1, 2, 20), 0);
    }

    private static void drawnThatEnd() {
        due("LOOP", Bench.of("A=any*cut*;").x.drawn(0, 1, 20, 20), 0);
        due("RING", Bench.of("A=any*B;B=B;").x.drawn(0, 1, 20, 20), 0);
        Bench steps = Bench.of("A=(look((look(any*)any)*)any)*;");
        due("not yet STEPS", steps.x.drawn(0, 1, 13, 2), 2);
        due("STEPS", steps.x.drawn(0, 1, 14, 2), 0);
        Bench deep = Bench.of("A=any((((A))))|any;");
        due("not yet DEEP", deep.x.drawn(0, 1, 11, 5), 5);
        due("DEEP", deep.x.drawn(0, 1, 12, 5), 0);
        Bench big = Bench.of("A=any*BBBCCC D;B=CCCCCCCC;C=DDDDDDDD;D=EEEEEEEE;E=digit?;");
        due("not yet BIG", big.x.drawn(0, 1, 15, 5), 5);
        due("BIG", big.x.drawn(0, 1, 16, 5), 0);
    }

    private static void drawnLeavesAll() {
        Bench bench = Bench.of("A=chain(any,'+'|'-');B=any|any B;C='a'cut'b'cut*;");
        bench.parse("a+b-c");
        String told = bench.told();
        for (int rule = 0; rule < 3; rule++) {
            bench.x.drawn(rule, 99, 20, 20);
            bench.x.drawn(rule, 99, 1, 1);
            due("told", bench.told(), told);
            due("node", bench.x.node(4, 1), 'c');
            due("no node", bench.x.node(5, 1), -1);
            due("text", bench.text(), "((97+98)-99)");
            due("worth", bench.x.worth(), 97 + 98 - 99);
            due("input", bench.x.count(2), 5);
        }
        due("the input's bytes", bench.x.parse(0, 2), 5);
        bench.feed("xy");
        bench.x.drawn(0, 1, 3, 3);
        due("the tape", bench.x.input(), 2);
        bench.x.drawn(0, 1, 3, 3);
        due("none that wasn't", bench.x.told(0), -3);
    }

    private static void drawnWithoutSteps() {
        Bench bench = Bench.of("A=any*;");
        // 21 steps for each that is drawn: 95 times 20 of them leave 100.
        for (int k = 0; k < 95; k++) {
            due("drawn " + k, bench.x.drawn(0, k, 20, 20), 20);
        }
        due("steps", bench.x.count(4), 39900);
        due("four of them", bench.x.drawn(0, 1, 20, 20), 4);
        due("all are used up", bench.x.count(4), 40000);
        due("none", bench.x.drawn(0, 1, 1, 20), 0);
        due("no more", bench.x.count(4), 40000);
        due("nor for a parse", bench.x.parse(0, 0), -17);
    }

    // ---- promise 13

    private static void leastAndMost() {
        Bench bench = new Bench();
        due("the least", bench.counts(), "0 0 0 0 0");
        bench.grammar("A=" + "'a'?".repeat(32) + ";B=A;C=A;D=A;E=A;F=A;G=A;H=A;");
        due("8 rules, 32 atoms", bench.counts(), "8 32 0 0 0");
        bench.feed("b".repeat(240));
        due("240 bytes", bench.counts(), "8 32 0 240 0");
        bench.x.input();
        bench.feed("c".repeat(240));
        due("240 bytes of input, too", bench.counts(), "8 32 240 240 0");
        bench.x.parse(1, 240);
        due("33 steps", bench.counts(), "8 32 240 240 33");
        bench.x.parse(1, 240);
        due("as many again", bench.counts(), "8 32 240 240 66");
        bench.x.grammar();
        due("a fault takes the tape alone", bench.counts(), "8 32 240 0 66");
        bench.grammar("H=cut;");
        due("a new grammar", bench.counts(), "1 0 240 0 66");
        bench.x.input();
        due("an empty input", bench.counts(), "1 0 0 0 66");
    }

    private static void badCount() {
        Bench bench = Bench.of("A=any;");
        for (int what : new int[] {-1, 5, 6, MIN, MAX}) {
            due("count " + what, bench.x.count(what), -2);
        }
    }
}
