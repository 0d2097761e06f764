import java.util.List;

/** Boundaries of promises 7, 8 and 9: the nodes of the tree, its worth, its text. */
final class TreeBoundaries {
    private static final int MIN = Integer.MIN_VALUE, MAX = Integer.MAX_VALUE;

    private static final String GROWN = ";B=CCCCCCCC;C=DDDDDDDD;D=EEEEEEEE;E='x'?;";

    private TreeBoundaries() {
    }

    static List<Sentence> sentences() {
        return List.of(
            new Sentence(7, "NONE: no such NODE; BAD: what; STATE: no PARSE.", TreeBoundaries::badNode),
            new Sentence(7, "BAD, else STATE, else NONE", TreeBoundaries::orderOfNode),
            new Sentence(7, "what it is (what 0): 0 a LEAF, 1 a BOUGH, 2 a FORK; its number, how many are in it, its byte (1)",
                TreeBoundaries::leastAndMostOfNodes),
            new Sentence(7, "within how many others it is (2)", TreeBoundaries::within),
            new Sentence(7, "NODES by numbers from 0: one, then what is in it, one behind the other, each with what is in it",
                TreeBoundaries::firstAndLastNode),
            new Sentence(7, "A NODE of the TREE", TreeBoundaries::afterManyParses),
            new Sentence(7, "of the ITEMS with TREES, without those that are just ' ' (a PART without * + ?): none: that of the first ' '"
                + " (nothing, if there is none); one: that; more: a BOUGH of them", TreeBoundaries::treeOfSequence),
            new Sentence(7, "('a') in brackets is not just ' '.", TreeBoundaries::bracketsAreNot),
            new Sentence(7, "else DONE there, an empty BOUGH", TreeBoundaries::treeOfPerhaps),
            new Sentence(7, "a BOUGH of their TREES (nothings left out)", TreeBoundaries::treeOfMany),
            new Sentence(7, "then for each more a FORK: of the second's TREE (a LEAF: its byte, digit; else 0)", TreeBoundaries::treeOfChain),
            new Sentence(7, "In a FORK nothing is an empty BOUGH; of one alone nothing is nothing.", TreeBoundaries::nothingInForks),
            new Sentence(7, "DONE one PLACE on, a LEAF of the byte (digit: of 0 .. 9)", TreeBoundaries::leaves),
            new Sentence(8, "WORTH of the TREE; 0 if it has none.", TreeBoundaries::noWorth),
            new Sentence(8, "STATE (-3) stands for any such number, too: no PARSE.", TreeBoundaries::worthOfMinusThree),
            new Sentence(8, "of a BOUGH: 0, and for each one in it 10 times what there is so far and its WORTH", TreeBoundaries::worthOfBoughs),
            new Sentence(8, "of a FORK: + - * of both (byte 43, 45, 42), else 0", TreeBoundaries::worthOfForks),
            new Sentence(8, "all int, wrapping", TreeBoundaries::worthWraps),
            new Sentence(9, "Byte k of the TREE's TEXT; NONE: beyond it.", TreeBoundaries::beyondText),
            new Sentence(9, "STATE: no PARSE.", TreeBoundaries::noText),
            new Sentence(9, "BAD, else STATE, else NONE", TreeBoundaries::orderOfText),
            new Sentence(9, "TEXT: of a LEAF its number", TreeBoundaries::textOfLeaves),
            new Sentence(9, "a BOUGH: [ then its TEXTS parted by , then ]", TreeBoundaries::textOfBoughs),
            new Sentence(9, "the byte (a digit's number as a byte; 0: ?)", TreeBoundaries::textOfForks));
    }

    private static void due(String what, long got, long want) {
        Bench.due(what, got, want);
    }

    /** Where it is done and the text of the tree. */
    private static void made(String grammar, String input, String want) {
        Bench.due(grammar + " of " + input, Bench.of(grammar).made(input), want);
    }

    // ---- promise 7

    private static void badNode() {
        Bench bench = Bench.of("A=any any;B=cut;");
        bench.input("pq");
        for (int what = 0; what <= 2; what++) {
            due("no parse", bench.x.node(0, what), -3);
        }
        bench.x.parse(0, 0);
        for (int what = 0; what <= 2; what++) {
            for (int k : new int[] {-1, 3, 4, 2000, MIN, MAX}) {
                due("node " + k + " " + what, bench.x.node(k, what), -1);
            }
        }
        for (int k = 0; k < 3; k++) {
            for (int what : new int[] {-1, 3, 4, MIN, MAX}) {
                due("node " + k + " " + what, bench.x.node(k, what), -2);
            }
        }
        due("the last", bench.x.node(2, 1), 'q');
        bench.x.parse(1, 0);
        due("nothing has no node", bench.x.node(0, 0), -1);
        bench.x.parse(0, 2);
        due("what fails has none", bench.x.node(0, 0), -1);
    }

    private static void orderOfNode() {
        Parsers x = new Parsers();
        due("BAD ahead of STATE", x.node(0, 3), -2);
        due("BAD ahead of STATE", x.node(-1, -1), -2);
        due("STATE ahead of NONE", x.node(-1, 0), -3);
        due("STATE ahead of NONE", x.node(MAX, 2), -3);
        Bench bench = Bench.of("A=cut;");
        bench.parse("");
        due("BAD ahead of NONE", bench.x.node(0, 3), -2);
        due("BAD ahead of NONE", bench.x.node(-1, -1), -2);
        due("NONE", bench.x.node(0, 2), -1);
    }

    /** What the first node is and its number. */
    private static void root(String grammar, String input, int sort, int number) {
        Bench bench = Bench.of(grammar);
        bench.parse(input);
        due(grammar + " of " + input + " is", bench.x.node(0, 0), sort);
        due(grammar + " of " + input + " has", bench.x.node(0, 1), number);
        due(grammar + " of " + input + " is within", bench.x.node(0, 2), 0);
    }

    private static void leastAndMostOfNodes() {
        root("A=any;", "" + (char) 0, 0, 0);
        root("A=any;", "" + (char) 255, 0, 255);
        root("A=digit;", "0", 0, 0);
        root("A=digit;", "9", 0, 9);
        root("A=any*;", "", 1, 0);
        root("A=any*;", "a", 1, 1);
        root("A=any*;", "a".repeat(240), 1, 240);
        root("A=any any;", "ab", 1, 2);
        root("A=chain('a',any);", "a" + (char) 0 + "a", 2, 0);
        root("A=chain('a',any);", "a" + (char) 255 + "a", 2, 255);
        root("A=chain('a',digit);", "a9a", 2, 9);
        root("A=chain('a',not('b'));", "aa", 2, 0);
    }

    private static void within() {
        Bench bench = Bench.of("A=any A|end;");
        int depth = 58;
        due("parse", bench.parse("z".repeat(depth)), depth);
        // The innermost is a LEAF alone, since end has no TREE.
        due("nodes", bench.x.told(5), 2 * depth - 1);
        for (int k = 0; k < 2 * depth - 1; k++) {
            due("node " + k + " is within", bench.x.node(k, 2), (k + 1) / 2);
        }
        Bench left = Bench.of("A=chain('a','+');");
        left.parse("a" + "+a".repeat(119));
        for (int k = 0; k < 239; k++) {
            due("node " + k + " is within", left.x.node(k, 2), k <= 119 ? k : 239 - k);
        }
    }

    private static void firstAndLastNode() {
        Bench bench = Bench.of("A=BBBCCC D" + " E".repeat(15) + " any" + GROWN);
        due("parse", bench.parse("q"), 1);
        due("nodes", bench.x.told(5), 2000);
        due("the first", bench.x.node(0, 1), 3 + 3 + 1 + 15 + 1);
        due("the last", bench.x.node(1999, 0) * 1000 + bench.x.node(1999, 1), 'q');
        due("the last is within", bench.x.node(1999, 2), 1);
        due("none behind it", bench.x.node(2000, 0), -1);
        int[] sorts = {1, 1, 0, 0, 2, 0, 1, 0, 0};
        int[] numbers = {2, 2, 'a', 'b', '-', 7, 2, 'c', 'd'};
        int[] depths = {0, 1, 2, 2, 1, 2, 2, 3, 3};
        Bench order = Bench.of("A=(any any)chain(digit|[az][az],'-');");
        due("parse", order.parse("ab7-cd"), 6);
        for (int k = 0; k < sorts.length; k++) {
            due("what " + k + " is", order.x.node(k, 0), sorts[k]);
            due("number of " + k, order.x.node(k, 1), numbers[k]);
            due("what " + k + " is within", order.x.node(k, 2), depths[k]);
        }
        due("none behind them", order.x.node(sorts.length, 0), -1);
    }

    /** However many trees, also half made ones, were there before. */
    private static void afterManyParses() {
        Bench bench = Bench.of("A=chain(B,'-');B=(any[xz]any)+;C=" + "any ".repeat(20) + "cut*;D=(any any)*;");
        bench.input("1x22x3-4z5-6q7" + "8z9".repeat(30));
        for (int time = 0; time < 20; time++) {
            due("a tree", bench.x.parse(0, 0), 10);
            due("its nodes", bench.x.told(5), 15);
            due("its last", bench.x.node(14, 1), '5');
            due("none behind it", bench.x.node(15, 0), -1);
            due("a loop", bench.x.parse(2, 0), -15);
            due("a large tree", bench.x.parse(3, 0), 104);
            due("its nodes", bench.x.told(5), 1 + 52 * 3);
            due("one within it", bench.x.node(154, 0) * 1000 + bench.x.node(154, 1), 1002);
            due("its last", bench.x.node(156, 1), '9');
            bench.x.drawn(2, time, 20, 20);
        }
        due("a tree", bench.x.parse(0, 0), 10);
        Bench.due("its text", bench.text(), "([[49,120,50],[50,120,51]]-[[52,122,53]])");
        manyTrees();
        afterManyTooBig();
    }

    /** What was gathered for a BOUGH that is BIG is not left over. */
    private static void afterManyTooBig() {
        Bench bench = Bench.of("A=" + "B".repeat(100) + ";B=look(C);C=any*;D=any any;");
        bench.input("x".repeat(20));
        due("a large tree", bench.x.parse(0, 0), -19);
        for (int call = 0; call < 10; call++) {
            due("drawn", bench.x.drawn(0, call, 20, 20), 0);
        }
        due("a small one", bench.x.parse(3, 0), 2);
        Bench.due("its text", bench.text(), "[120,120]");
    }

    /** Some 720 trees, with more than 1400 in them, of one parse. */
    private static void manyTrees() {
        Bench bench = Bench.of("A=" + "look(chain(any any,any any))".repeat(4) + ";");
        bench.input("ab".repeat(119) + "yz");
        due("many trees", bench.x.parse(0, 0), 0);
        due("their steps", bench.x.told(2), 4 * 243);
        // Of each chain 60 first ALTS, each with its two bytes, and 59 FORKS.
        due("their nodes", bench.x.told(5), 1 + 4 * 239);
        for (int chain = 0; chain < 4; chain++) {
            int from = 1 + chain * 239;
            due("a chain's fork", bench.x.node(from, 0) * 1000 + bench.x.node(from, 1), 2000);
            due("is within", bench.x.node(from, 2), 1);
            due("the first ALT at the left", bench.x.node(from + 59, 0) * 1000 + bench.x.node(from + 59, 1), 1002);
            due("is within", bench.x.node(from + 59, 2), 60);
            due("its bytes", bench.x.node(from + 60, 1) * 1000 + bench.x.node(from + 61, 1), 97098);
            due("the last first ALT", bench.x.node(from + 236, 0) * 1000 + bench.x.node(from + 236, 1), 1002);
            due("is within", bench.x.node(from + 236, 2), 2);
            due("its bytes", bench.x.node(from + 237, 1) * 1000 + bench.x.node(from + 238, 1), 97098);
        }
        // Each FORK's byte is 0; a byte of a text is worth a call, so only its end is looked at.
        int end = 2 + 4 * (60 * "[97,98]".length() + 59 * "(?)".length()) + 3;
        StringBuilder last = new StringBuilder();
        for (int k = end - 20; k <= end; k++) {
            int sign = bench.x.text(k);
            last.append(sign < 0 ? "none" : "" + (char) sign);
        }
        Bench.due("the text's end", last.toString(), ")?[97,98])?[97,98])]none");
    }

    private static void treeOfSequence() {
        made("A=cut end;", "", "0 ");
        made("A=not('a')cut;", "", "0 ");
        made("A='a';", "a", "1 97");
        made("A='a''b''c';", "abc", "3 97");
        made("A=cut'a''b'end;", "ab", "2 97");
        made("A=any;", "x", "1 120");
        made("A='a'any'b';", "axb", "3 120");
        made("A='a'any'b'any;", "axby", "4 [120,121]");
        made("A=any any any;", "xyz", "3 [120,121,122]");
        made("A='a''b'*;", "a", "1 []");
        made("A='a''b'?;", "ab", "2 98");
        made("A='a''b'+;", "abb", "3 [98,98]");
        made("A='a'B;B=cut;", "a", "1 97");
        made("A='a'B;B='b';", "ab", "2 98");
        made("A=[aa][bb];", "ab", "2 [97,98]");
    }

    private static void bracketsAreNot() {
        made("A='a'('b');", "ab", "2 98");
        made("A=('a')'b';", "ab", "2 97");
        made("A=('a')('b');", "ab", "2 [97,98]");
        made("A='a'(('b'));", "ab", "2 98");
        made("A='a'try('b')look('c');", "abc", "2 [98,99]");
        made("A='a''b';", "ab", "2 97");
    }

    private static void treeOfPerhaps() {
        made("A=any?;", "", "0 []");
        made("A=any?;", "a", "1 97");
        made("A='a'?'b'?;", "", "0 [[],[]]");
        made("A='a'?'b'?;", "b", "1 [[],98]");
        made("A=(any any)?;", "a", "0 []");
        made("A=(any any)?;", "ab", "2 [97,98]");
        made("A=cut?;", "a", "0 ");
        made("A=any(cut?);", "a", "1 97");
    }

    private static void treeOfMany() {
        made("A='a'*;", "", "0 []");
        made("A='a'*;", "a", "1 [97]");
        made("A='a'+;", "a", "1 [97]");
        made("A='a'+;", "aaa", "3 [97,97,97]");
        made("A=(any any)*;", "abc", "2 [[97,98]]");
        // What takes a byte has a TREE: nothings are found ahead of it or behind it alone.
        made("A=(not('-')any cut)*;", "ab", "2 [97,98]");
        made("A=(not('-')'a'end?)*;", "a", "1 [97]");
        made("A=(try(B))+;B=any look(C);C=cut;", "ab", "2 [97,98]");
        Bench bench = Bench.of("A=any*;");
        bench.parse("a".repeat(240));
        due("240 and the BOUGH", bench.x.told(5), 241);
    }

    private static void treeOfChain() {
        made("A=chain(digit,any);", "1", "1 1");
        made("A=chain(digit,any);", "1-2", "3 (1-2)");
        made("A=chain(digit,any);", "1-2+3", "5 ((1-2)+3)");
        made("A=chain(any,digit);", "a5b", "3 (97" + (char) 5 + "98)");
        made("A=chain(any,any any);", "a--b", "4 (97?98)");
        made("A=chain(any,any?any);", "a--b", "4 (97?98)");
        made("A=chain(any,B);B='('any')';", "a(*)b", "5 (97*98)");
        made("A=chain(any,look(any));", "ab", "2 (97" + (char) 98 + "98)");
        made("A=chain(any,not(end));", "ab", "2 (97?98)");
        made("A=chain(digit,'-');", "1-2-", "3 (1-2)");
        made("A=chain(digit,chain(any,'x'));", "1ax-2", "5 (1?2)");
    }

    private static void nothingInForks() {
        made("A=chain(cut,'-');", "", "0 ");
        made("A=chain(cut,'-');", "-", "1 ([]-[])");
        made("A=chain(cut,'-');", "--", "2 (([]-[])-[])");
        made("A=chain(cut|'a','-');", "-a", "1 ([]-[])");
        made("A=chain('a'|cut,'-');", "a-", "2 (97-[])");
        made("A=chain('a'|cut,'-');", "-a", "2 ([]-97)");
        made("A=chain('a'?,'-');", "-a", "2 ([]-97)");
        made("A=any chain(cut,'-');", "a", "1 97");
        made("A=any chain('x'?,'-');", "a", "1 [97,[]]");
        Bench bench = Bench.of("A=chain(cut,'-');");
        bench.parse("-");
        due("each is a node", bench.x.told(5), 3);
        bench.parse("");
        due("none is a node", bench.x.told(5), 0);
    }

    private static void leaves() {
        for (int sign = 0; sign < 256; sign++) {
            Bench bench = Bench.of("A=any;B=digit;C=[" + (char) 0 + (char) 255 + "];");
            bench.input("" + (char) sign);
            bench.x.parse(0, 0);
            due("any of " + sign, bench.x.node(0, 1), sign);
            bench.x.parse(2, 0);
            due("[ ] of " + sign, bench.x.node(0, 1), sign);
            bench.x.parse(1, 0);
            due("digit of " + sign, bench.x.node(0, 1), sign >= '0' && sign <= '9' ? sign - '0' : -1);
        }
    }

    // ---- promise 8

    private static void worth(String grammar, String input, int want) {
        Bench bench = Bench.of(grammar);
        bench.parse(input);
        due("worth by " + grammar + " of " + input, bench.x.worth(), want);
    }

    private static void noWorth() {
        worth("A=cut;", "a", 0);
        worth("A=digit;", "a", 0);
        worth("A=cut digit;", "a", 0);
        worth("A=A;", "a", 0);
        worth("A=any cut*;", "a", 0);
        Bench bench = Bench.of("A=digit;");
        bench.parse("7");
        due("worth", bench.x.worth(), 7);
        bench.x.parse(0, 1);
        due("worth of what fails", bench.x.worth(), 0);
    }

    private static void worthOfMinusThree() {
        String grammar = "A=chain(digit,'-');";
        Bench bench = Bench.of(grammar);
        due("no parse", bench.x.worth(), -3);
        bench.parse("1-4");
        due("a worth of -3", bench.x.worth(), -3);
        due("there is a parse", bench.x.told(5), 3);
        bench.parse("1-3");
        due("a worth of -2", bench.x.worth(), -2);
        bench.input("1-3");
        due("no parse again", bench.x.worth(), -3);
    }

    private static void worthOfBoughs() {
        worth("A=any*;", "", 0);
        worth("A=digit*;", "0", 0);
        worth("A=digit*;", "7", 7);
        worth("A=digit*;", "0907", 907);
        worth("A=any*;", "" + (char) 255 + (char) 255, 2805);
        worth("A=digit(digit digit)digit;", "1234", 10 * (10 + 23) + 4);
        worth("A=digit'x'?digit;", "12", 102);
        worth("A=digit chain(digit,'-');", "12-7", 10 - 5);
    }

    private static void worthOfForks() {
        String grammar = "A=chain(digit,any);";
        for (int sign = 0; sign < 256; sign++) {
            int want = sign == '+' ? 12 : sign == '-' ? 6 : sign == '*' ? 27 : 0;
            worth(grammar, "9" + (char) sign + "3", want);
        }
        worth("A=chain(digit,not(end));", "93", 0);
        worth("A=chain(digit,any any);", "9++3", 0);
        worth("A=chain(digit,'+');", "9+3+1", 13);
        worth("A=chain(digit,'-');", "9-3-1", 5);
        worth("A=chain(digit,any);", "9?3+1", 1);
        worth("A=chain('x'?,'-');", "-", 0);
        worth("A=chain('x'?,'+');", "+x", 'x');
    }

    private static void worthWraps() {
        String digits = "A=digit*;";
        worth(digits, "2147483647", MAX);
        worth(digits, "2147483648", MIN);
        worth(digits, "4294967295", -1);
        worth(digits, "4294967296", 0);
        worth(digits, "99999999999", (int) 99999999999L);
        worth("A=any*;", ("" + (char) 255).repeat(240), wrapped(255, 240));
        String sums = "A=chain(B,'+'|'-'|'*');B=digit*;";
        worth(sums, "2147483647+1", MIN);
        worth(sums, "2147483648+2147483648", 0);
        worth(sums, "0-2147483647-2", MAX);
        worth(sums, "0-2147483648", MIN);
        worth(sums, "65536*65536", 0);
        worth(sums, "65536*32768", MIN);
        worth(sums, "46341*46341", (int) (46341L * 46341L));
        worth(sums, "2147483648*2147483647+1", MIN + 1);
    }

    private static int wrapped(int number, int times) {
        long all = 0;
        for (int k = 0; k < times; k++) {
            all = all * 10 + number & 0xFFFFFFFFL;
        }
        return (int) all;
    }

    // ---- promise 9

    private static void beyondText() {
        Bench bench = Bench.of("A=any*;B=cut;");
        bench.parse("ab");
        String want = "[97,98]";
        for (int k = 0; k < want.length(); k++) {
            due("byte " + k, bench.x.text(k), want.charAt(k));
        }
        for (int k : new int[] {7, 8, 1000, MAX, -1, MIN}) {
            due("text " + k, bench.x.text(k), -1);
        }
        bench.x.parse(1, 0);
        due("of nothing", bench.x.text(0), -1);
        bench.input("");
        due("of an empty bough", bench.x.parse(0, 0), 0);
        due("its last", bench.x.text(1), ']');
        due("behind its last", bench.x.text(2), -1);
        Bench fails = Bench.of("A=digit;");
        fails.parse("7");
        fails.x.parse(0, 1);
        due("of what fails", fails.x.text(0), -1);
        Bench big = Bench.of("A=BBBCCC D" + " E".repeat(16) + GROWN);
        big.parse("");
        // E has 2 bytes, D 2 + 8 * 2 + 7 = 25, C 209, B 1681; 23 of them parted by 22 signs.
        int size = 2 + 3 * 1681 + 3 * 209 + 25 + 16 * 2 + 22;
        due("the last of many", big.x.text(size - 1), ']');
        due("behind the last of many", big.x.text(size), -1);
        due("one of them", big.x.text(size - 3), '[');
        Bench wide = Bench.of("A=any*;");
        due("three signs each", wide.parse(("" + (char) 255).repeat(240)), 240);
        due("the last of 240", wide.x.text(240 * 4), ']');
        due("behind the last of 240", wide.x.text(240 * 4 + 1), -1);
    }

    private static void noText() {
        Bench bench = Bench.of("A=any;");
        due("no parse yet", bench.x.text(0), -3);
        bench.parse("x");
        due("a parse", bench.x.text(0), '1');
        bench.input("x");
        due("forgotten by input", bench.x.text(0), -3);
        bench.x.parse(0, 0);
        bench.grammar("A=any;");
        due("forgotten by a grammar", bench.x.text(0), -3);
    }

    private static void orderOfText() {
        Parsers x = new Parsers();
        for (int k : new int[] {-1, 0, 1, MIN, MAX}) {
            due("text " + k, x.text(k), -3);
        }
    }

    private static void textOfLeaves() {
        for (int number : new int[] {0, 1, 9, 10, 11, 99, 100, 101, 110, 199, 200, 255}) {
            made("A=any;", "" + (char) number, "1 " + number);
        }
        made("A=digit;", "0", "1 0");
        made("A=digit;", "9", "1 9");
    }

    private static void textOfBoughs() {
        made("A=any*;", "", "0 []");
        made("A=any*;", "a", "1 [97]");
        made("A=any*;", "ab", "2 [97,98]");
        made("A=(any*any?)digit?;", "", "0 [[[],[]],[]]");
        made("A=(any digit)any(any digit);", "a1bc2", "5 [[97,1],98,[99,2]]");
        made("A=any B;B=any C;C=any D;D=any any;", "abcde", "5 [97,[98,[99,[100,101]]]]");
        made("A=B any;B=C any;C=any any;", "abcd", "4 [[[97,98],99],100]");
    }

    private static void textOfForks() {
        for (int sign = 1; sign < 256; sign++) {
            made("A=chain(digit,any);", "1" + (char) sign + "2", "3 (1" + (char) sign + "2)");
        }
        made("A=chain(digit,any);", "1" + (char) 0 + "2", "3 (1?2)");
        made("A=chain(any,digit);", "a0b", "3 (97?98)");
        made("A=chain(any,digit);", "a1b", "3 (97" + (char) 1 + "98)");
        made("A=chain(any,digit);", "a9b", "3 (97" + (char) 9 + "98)");
        made("A=chain(any,not(end));", "ab", "2 (97?98)");
        made("A=chain(digit|[az][az],'-')'x'?;", "ab-7", "4 [([97,98]-7),[]]");
        made("A=chain(chain(digit,'-'),'+');", "1-2+3-4", "7 ((1-2)+(3-4))");
        made("A=chain('x'?,'-');", "--", "2 (([]-[])-[])");
        String left = "(".repeat(80) + "97" + "+97)".repeat(80);
        made("A=chain('a','+');", "a" + "+a".repeat(80), "161 " + left);
    }
}
