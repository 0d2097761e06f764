/** The document's promises, one after the other, with answers worked out by hand. */
public final class PromisesTest {
    public static void main(String[] args) {
        promise1();
        promise2();
        promise3();
        promise4();
        promise5();
        committed();
        promise6();
        expected();
        memory();
        promise7();
        trees();
        promise8();
        promise9();
        promise10();
        promise11();
        promise12();
        promise13();
        readme();
        Bench.finish("PromisesTest");
    }

    private static void due(String what, long got, long want) {
        Bench.due(what, got, want);
    }

    private static void due(String what, String got, String want) {
        Bench.due(what, got, want);
    }

    private static void fault(String grammar, int place) {
        due("grammar " + grammar, new Bench().grammar(grammar), -100 - place);
    }

    private static void stands(String grammar, int rules) {
        due("grammar " + grammar, new Bench().grammar(grammar), rules);
    }

    private static void promise1() {
        Parsers x = new Parsers();
        for (int what = 0; what <= 4; what++) {
            due("new count " + what, x.count(what), 0);
        }
        for (int rule = 0; rule < 8; rule++) {
            due("new rule there", x.rule(rule, 0), 0);
            due("new parse", x.parse(rule, 0), -2);
            due("new rule nothing", x.rule(rule, 1), -1);
        }
        due("new atom", x.atom(0, 0), -1);
        due("new told", x.told(0), -3);
        due("new node", x.node(0, 0), -3);
        due("new worth", x.worth(), -3);
        due("new text", x.text(0), -3);
        due("new drawn", x.drawn(0, 1, 1, 1), -2);
        due("constants", CommittedParsers.NONE + " " + CommittedParsers.BAD + " " + CommittedParsers.STATE + " "
            + CommittedParsers.FULL + " " + CommittedParsers.LOOP + " " + CommittedParsers.RING + " "
            + CommittedParsers.STEPS + " " + CommittedParsers.DEEP + " " + CommittedParsers.BIG,
            "-1 -2 -3 -4 -15 -16 -17 -18 -19");
        Bench empty = Bench.of("A=end;");
        due("end of an empty input", empty.x.parse(0, 0), 0);
    }

    private static void promise2() {
        Parsers x = new Parsers();
        due("feed 0", x.feed(0, 65), -2);
        due("feed 5", x.feed(5, 65), -2);
        due("feed -1", x.feed(-1, 65), -2);
        due("feed min", x.feed(Integer.MIN_VALUE, 65), -2);
        due("feed max", x.feed(Integer.MAX_VALUE, 65), -2);
        due("feed 2", x.feed(2, 'A' | '=' << 8 | 'x' << 16), 2);
        due("feed 4", x.feed(4, 'a' | 'n' << 8 | 'y' << 16 | ';' << 24), 6);
        due("lowest first", x.grammar(), 1);
        due("feed high bytes", x.feed(3, 0x00ff80fe), 3);
        due("input", x.input(), 3);
        int[] want = {254, 128, 255};
        for (int k = 0; k < 3; k++) {
            x.parse(0, k);
            due("byte " + k, x.node(0, 1), want[k]);
        }
        for (int k = 1; k <= 59; k++) {
            x.feed(4, 0);
        }
        due("236", x.count(3), 236);
        due("feed 3 of 4", x.feed(3, 0), 239);
        due("no room", x.feed(2, 0), -4);
        due("BAD ahead of FULL", x.feed(5, 0), -2);
        due("nothing of it came", x.count(3), 239);
        due("the last one", x.feed(1, 0), 240);
        due("full", x.feed(1, 0), -4);
        due("still full", x.feed(4, 0), -4);
        due("240 bytes", x.input(), 240);
        due("empty then", x.feed(1, 0), 1);
    }

    private static void promise3() {
        stands("A='a';", 1);
        stands(" A = 'a' ; ", 1);
        stands("B=any;A=B;", 2);
        stands("A=B;B=C;C=D;D=E;E=F;F=G;G=H;H=cut;", 8);
        stands("A=(  any|digit )* try( end ) not ( 'x' )look(any)as('y') chain ( any , cut ) ;", 1);
        stands("A=' '[ z]' ';", 1);
        stands("A=['a];", 1);
        stands("A=[']]['']'[';", 1);
        stands("A=[aa];", 1);
        stands("A='a'  ?'b' *'c' +;", 1);
        stands("A=cutA;", 1);
        stands("A=((((((((any))))))));", 1);
        stands("A=chain(try(not(look(as(chain(((any)),cut))))),cut);", 1);

        Bench bench = Bench.of("A=any;");
        bench.input("q");
        due("parse", bench.x.parse(0, 0), 1);
        due("fault", bench.grammar("A=any"), -105);
        due("the tape is empty by a fault", bench.x.count(3), 0);
        due("what was parsed stays by a fault", bench.x.node(0, 1), 'q');
        due("the grammar stays by a fault", bench.x.parse(0, 0), 1);
        due("rules", bench.grammar("B=digit;C=B;"), 2);
        due("the tape is empty", bench.x.count(3), 0);
        due("forgotten", bench.x.told(0), -3);
        due("no more there", bench.x.rule(0, 0), 0);
        due("input stays", bench.x.count(2), 1);
    }

    private static void promise4() {
        Bench bench = Bench.of("A=any;");
        due("input", bench.input("xyz"), 3);
        due("the tape is empty", bench.x.count(3), 0);
        bench.x.parse(0, 2);
        due("parsed", bench.x.node(0, 1), 'z');
        due("input again", bench.input("pq"), 2);
        due("forgotten told", bench.x.told(2), -3);
        due("forgotten node", bench.x.node(0, 0), -3);
        due("forgotten worth", bench.x.worth(), -3);
        due("forgotten text", bench.x.text(0), -3);
        due("a shorter one has no more", bench.x.parse(0, 2), -5);
        due("behind it", bench.x.parse(0, 3), -2);
        due("empty input", bench.x.input(), 0);
        due("its end", bench.x.parse(0, 0), -5);
        due("rules stay", bench.x.count(0), 1);
    }

    private static void promise5() {
        Bench bench = Bench.of("A='a';B=[bd];C=digit;D=any;E=end;F=cut;G=A|B;H='a'B C;");
        bench.input("ab7");
        int[][] want = {{1, -5, -5, -5}, {-5, 2, -5, -5}, {-5, -5, 3, -5}, {1, 2, 3, -5}, {-5, -5, -5, 3},
            {0, 1, 2, 3}, {1, 2, -5, -5}, {3, -5, -5, -5}};
        for (int rule = 0; rule < 8; rule++) {
            for (int place = 0; place <= 3; place++) {
                due("parse " + rule + " " + place, bench.x.parse(rule, place), want[rule][place]);
            }
        }
        due("rule -1", bench.x.parse(-1, 0), -2);
        due("rule 8", bench.x.parse(8, 0), -2);
        due("place -1", bench.x.parse(0, -1), -2);
        due("place behind the end", bench.x.parse(0, 4), -2);
        due("max", bench.x.parse(Integer.MAX_VALUE, Integer.MAX_VALUE), -2);
        due("min", bench.x.parse(0, Integer.MIN_VALUE), -2);
        due("the last parse stays by BAD", bench.x.told(2), 1);
        bench.input("bcde");
        due("first of a range", bench.x.parse(1, 0), 1);
        due("last of a range", bench.x.parse(1, 2), 3);
        due("behind a range", bench.x.parse(1, 3), -5);
        bench.input("/09:");
        due("ahead of the digits", bench.x.parse(2, 0), -5);
        due("0", bench.x.parse(2, 1), 2);
        due("9", bench.x.parse(2, 2), 3);
        due("behind the digits", bench.x.parse(2, 3), -5);
        Bench high = Bench.of("A=[" + (char) 127 + (char) 255 + "]+;");
        due("high bytes", high.parse("" + (char) 127 + (char) 128 + (char) 255 + "a"), 3);
        Bench gap = Bench.of("A=any;C=any;");
        due("a rule that is not there", gap.x.parse(1, 0), -2);
    }

    /** Choices and repetitions don't go back behind a cut, try takes it off. */
    private static void committed() {
        due("choice goes back", Bench.of("A='a''b'|'a''c';").parse("ac"), 2);
        due("cut: it doesn't", Bench.of("A='a'cut'b'|'a''c';").parse("ac"), -6);
        due("cut behind the one that fails", Bench.of("A='a''b'cut|'a''c';").parse("ac"), 2);
        due("the bracket's cut is the sequence's", Bench.of("A=('a'cut)'b'|'a''c';").parse("ac"), -6);
        due("the rule's, too", Bench.of("A=B'b'|'a''c';B='a'cut;").parse("ac"), -6);
        due("try takes it off", Bench.of("A=try('a'cut)'b'|'a''c';").parse("ac"), 2);
        due("try of what fails sharp", Bench.of("A=try('a'cut'b')|'a''c';").parse("ac"), 2);
        due("? goes back", Bench.of("A=('a''b')?'a';").parse("ac"), 1);
        due("? fails sharp", Bench.of("A=('a'cut'b')?'a';").parse("ac"), -6);
        due("? done sharp", Bench.of("A=cut?'b'|any;").parse("a"), -6);
        due("* goes back", Bench.of("A=('a''b')*'a';").parse("abac"), 3);
        due("* fails sharp", Bench.of("A=('a'cut'b')*'a';").parse("abac"), -6);
        due("* done sharp", Bench.of("A=('a'cut)*'b'|any;").parse("aac"), -6);
        due("* of none is not sharp", Bench.of("A=('a'cut)*'b'|any;").parse("c"), 1);
        due("+ of none fails", Bench.of("A=('a'cut'b')+|any;").parse("c"), 1);
        due("+ of none fails sharp", Bench.of("A=('a'cut'b')+|any;").parse("ac"), -6);
        due("+ goes back", Bench.of("A=('a''b')+'a';").parse("abac"), 3);
        due("+ fails sharp", Bench.of("A=('a'cut'b')+'a'|any;").parse("abac"), -6);
        due("look is never sharp", Bench.of("A=look('a'cut)'b'|any;").parse("ac"), 1);
        due("look fails not sharp", Bench.of("A=look('a'cut'b')|any;").parse("ac"), 1);
        due("look is done where it began", Bench.of("A=look('a''b')any;").parse("ab"), 1);
        due("not of what fails sharp", Bench.of("A=not('a'cut'b')any;").parse("ac"), 1);
        due("not fails not sharp", Bench.of("A=not('a'cut)any|'a''c';").parse("ac"), 2);
        due("as fails sharp", Bench.of("A=as('a'cut'b')|any;").parse("ac"), -6);
        due("as done sharp", Bench.of("A=as('a'cut)'b'|any;").parse("ac"), -6);
        due("a fault not sharp behind a cut within one item", Bench.of("A=('a'cut|'b')'d'|any;").parse("ac"), -6);
        due("sharp of the last alternative", Bench.of("A='x'|'a'cut'b';").parse("ac"), -6);
        due("memory is as sharp", Bench.of("A=look(B)any|try(B)|B|any;B='a'cut'b';").parse("ac"), -6);
        Bench chain = Bench.of("A=chain('a',','cut)|any;");
        due("chain behind a sharp second", chain.parse("a,"), -6);
        due("chain done", chain.parse("a,ab"), 3);
        due("sharp", chain.x.told(4), 1);
        due("chain's first fails as that", chain.parse("b"), 1);
        due("chain's first sharp", Bench.of("A=chain('a'cut'b',',')|any;").parse("ac"), -6);
        due("chain's later first sharp", Bench.of("A=chain('a''b'|'x'cut'y',',')|any;").parse("ab,xz"), -6);
        due("chain goes back ahead of the second", Bench.of("A=chain('a',',')any;").parse("a,b"), 2);
        due("chain's second fails sharp", Bench.of("A=chain('a',','cut'-')|any;").parse("a,b"), -6);
        due("chain, sharp at first, goes back", Bench.of("A=chain('a'cut,',')any;").parse("a,b"), 2);
        due("chain, sharp at first, is sharp", Bench.of("A=chain('a'cut,',')'x'|any;").parse("a,b"), -6);
    }

    private static void promise6() {
        Bench bench = Bench.of("A='a'B|'a''c';B='b'cut'd';");
        // far, wanted: atoms 'a' 0, 'a' 1, 'c' 2, 'b' 3, 'd' 4.
        due("done", bench.parsed("ac"), "2 1 8 5 0 0 1");
        due("fails", bench.parsed("ax"), "-5 1 12 5 0 0 0");
        due("fails sharp", bench.parsed("abx"), "-6 2 16 5 0 1 0");
        due("done sharp", bench.parsed("abd"), "3 -1 0 5 0 1 1");
        due("nothing at all", bench.parsed(""), "-5 0 3 2 0 0 0");
        due("BAD", bench.x.told(6), -2);
        due("BAD", bench.x.told(-1), -2);
        due("BAD ahead of STATE", new Parsers().told(6), -2);
        due("STATE", new Parsers().told(5), -3);
        due("a loop is not sharp", Bench.of("A=cut*;").parsed("a"), "-15 -1 0 1 0 0 0");
        Bench high = Bench.of("A=" + "'a'|".repeat(31) + "'b';");
        high.parse("c");
        due("32 bits", high.x.told(1), -1);
        due("a try of sharp", Bench.of("A=try('a'cut);").parsed("a"), "1 -1 0 3 0 0 1");
    }

    /** What is expected, and where. */
    private static void expected() {
        due("the farthest", Bench.of("A='a''b''c'|'a''d'|'x';").parsed("abd"), "-5 2 4 6 0 0 0");
        due("all of one place", Bench.of("A='a'('b'|[cd]|digit|any|end|'f');").parsed("a"), "1 1 30 7 0 0 1");
        due("end expects", Bench.of("A=end;").parsed("a"), "-5 0 1 1 0 0 0");
        due("any expects", Bench.of("A=any;").parsed(""), "-5 0 1 1 0 0 0");
        // not: itself, nothing of what is within.
        due("not expects itself", Bench.of("A=not('a''b');").parsed("ab"), "-5 0 1 3 0 0 0");
        due("within not nothing counts", Bench.of("A=not('a''b')'x';").parsed("ac"), "-5 0 8 4 0 0 0");
        due("not that is done, nothing", Bench.of("A=not('a''b');").parsed("ac"), "0 -1 0 3 0 0 0");
        due("as within not", Bench.of("A=not(as('a'))'b';").parsed("b"), "1 -1 0 4 0 0 1");
        // as: itself where it began, what is farther on counts.
        due("as expects itself", Bench.of("A=as('a'|'b');").parsed("c"), "-5 0 1 3 0 0 0");
        due("as, farther on", Bench.of("A=as('a''b');").parsed("ac"), "-5 1 4 3 0 0 0");
        due("as, done: all of it", Bench.of("A=as('a'?'b');").parsed("b"), "1 0 2 3 0 0 1");
        due("as, what was ahead stays", Bench.of("A='a'|as('b'|'c')|'d';").parsed("x"), "-5 0 19 5 0 0 0");
        due("as within as", Bench.of("A=as('a'|as('b'));").parsed("x"), "-5 0 1 4 0 0 0");
        due("as fails sharp", Bench.of("A=as(cut'a');").parsed("x"), "-6 0 1 3 0 1 0");
        due("not within as", Bench.of("A=as(any not(any));").parsed("xy"), "-5 1 4 4 0 0 0");
        due("look counts", Bench.of("A=look('a''b')any;").parsed("ac"), "-5 1 2 3 0 0 0");
        due("try counts", Bench.of("A=try('a'cut'b')|'c';").parsed("ax"), "-5 1 2 5 0 0 0");
        // If the parse ends within them, nothing of it.
        due("ends within not", Bench.of("A='x'?not('a'?A);").parsed("b"), "-16 0 1 4 0 0 0");
        due("ends within as", Bench.of("A='x'|as('a'|cut+);").parsed("b"), "-15 0 1 4 0 0 0");
        due("ends within as within not", Bench.of("A=not('a'?as('b'?A));").parsed("c"), "-16 -1 0 5 0 0 0");
        due("as that answered counts", Bench.of("A=as('a')|A;").parsed("c"), "-16 0 1 3 0 0 0");
        due("ends outside", Bench.of("A='a'?A;").parsed("b"), "-16 0 1 2 0 0 0");
    }

    private static void memory() {
        Bench bench = Bench.of("A=B'x'|B'y'|B'z';B='a''b';");
        due("answered anew", bench.parsed("abz"), "3 2 3 8 2 0 1");
        due("what fails, too", bench.parsed("ac"), "-5 1 16 5 2 0 0");
        due("not at another place", Bench.of("A=B B;B=any;").parsed("ab"), "2 -1 0 4 0 0 3");
        due("what was expected is not anew", Bench.of("A=not(B'x')B;B='a'|'b';").parsed("b"), "1 -1 0 6 1 0 1");
        due("as sharp", Bench.of("A=try(B)B;B=cut;").parsed(""), "0 -1 0 4 1 1 0");
        due("the tree, too", Bench.of("A=look(B)B;B=digit digit;").made("12"), "2 [[1,2],[1,2]]");
        due("within and without", Bench.of("A=look(B)any B;B=any A?;").parsed("a"), "-5 1 2 9 1 0 0");
        due("a new parse has none", bench.parsed("abz"), "3 2 3 8 2 0 1");
    }

    private static void promise7() {
        Bench bench = Bench.of("A=chain(B,'-'|digit);B=[az]*;");
        due("text", bench.made("ab-c"), "4 ([97,98]-[99])");
        int[][] want = {{2, '-', 0}, {1, 2, 1}, {0, 97, 2}, {0, 98, 2}, {1, 1, 1}, {0, 99, 2}};
        due("nodes", bench.x.told(5), want.length);
        for (int k = 0; k < want.length; k++) {
            for (int what = 0; what < 3; what++) {
                due("node " + k + " " + what, bench.x.node(k, what), want[k][what]);
            }
        }
        due("NONE", bench.x.node(6, 0), -1);
        due("NONE", bench.x.node(-1, 1), -1);
        due("NONE", bench.x.node(Integer.MAX_VALUE, 2), -1);
        due("NONE", bench.x.node(Integer.MIN_VALUE, 2), -1);
        due("BAD", bench.x.node(0, 3), -2);
        due("BAD", bench.x.node(0, -1), -2);
        due("BAD ahead of NONE", bench.x.node(99, 3), -2);
        due("BAD ahead of STATE", new Parsers().node(0, 3), -2);
        due("STATE ahead of NONE", new Parsers().node(-1, 0), -3);
        bench.x.drawn(0, 1, 5, 5);
        due("drawn leaves it", bench.x.node(5, 1), 99);
        Bench fails = Bench.of("A='a';");
        fails.parse("b");
        due("no tree", fails.x.node(0, 0), -1);
        Bench digit = Bench.of("A=digit;");
        digit.parse("7");
        due("a digit's number", digit.x.node(0, 1), 7);
        Bench wide = Bench.of("A=(any B)*;B=CCCCCCCC;C=DDDDDDDD;D=EEEEEEEE;E='x'?;");
        wide.parse("abc");
        due("last of many", wide.x.node(wide.x.told(5) - 1, 2), 5);
        due("behind the last", wide.x.node(wide.x.told(5), 2), -1);
    }

    /** Which trees are made. */
    private static void trees() {
        due("one quoted", Bench.of("A='a';").made("a"), "1 97");
        due("quoted ones: the first", Bench.of("A='a''b';").made("ab"), "2 97");
        due("quoted ones behind nothing", Bench.of("A=cut'a'end;").made("a"), "1 97");
        due("quoted ones left out", Bench.of("A='('any')';").made("(x)"), "3 120");
        due("more", Bench.of("A=any'-'digit;").made("x-5"), "3 [120,5]");
        due("nothing", Bench.of("A=cut end not(any);").made(""), "0 ");
        due("brackets are not just quoted", Bench.of("A=('a')'b';").made("ab"), "2 97");
        due("brackets are not just quoted", Bench.of("A='a'('b');").made("ab"), "2 98");
        due("nor is ?", Bench.of("A='a''b'?;").made("ab"), "2 98");
        due("? of none", Bench.of("A='a''b'?;").made("a"), "1 []");
        due("? of nothing", Bench.of("A=any cut?;").made("a"), "1 97");
        due("*", Bench.of("A='a'*;").made("aa"), "2 [97,97]");
        due("* of one", Bench.of("A='a'*;").made("a"), "1 [97]");
        due("* of none", Bench.of("A='a'*;").made(""), "0 []");
        due("+", Bench.of("A=digit+;").made("05"), "2 [0,5]");
        due("* leaves nothings out", Bench.of("A=B*;B=look(any)C|'x';C=cut any;").made("ab"), "2 [[97,97],[98,98]]");
        due("names", Bench.of("A=B B;B='b'any'b';").made("bxbbyb"), "6 [120,121]");
        due("look has a tree", Bench.of("A=look(any any)digit;").made("1x"), "1 [[49,120],1]");
        due("try and as have theirs", Bench.of("A=try(any)as(any);").made("xy"), "2 [120,121]");
        due("not has none", Bench.of("A=not('a')any;").made("x"), "1 120");
        due("chain of one", Bench.of("A=chain(any,'-');").made("x"), "1 120");
        due("chain of one, nothing", Bench.of("A=chain(cut,'-');").made("x"), "0 ");
        due("a chain leans left", Bench.of("A=chain(digit,'-'|'+');").made("1-2+3"), "5 ((1-2)+3)");
        due("a fork of nothings", Bench.of("A=chain(cut|'x','-');").made("--"), "2 (([]-[])-[])");
        due("the second's digit", Bench.of("A=chain(any,digit);").made("a5b"), "3 (97" + (char) 5 + "98)");
        due("the second's bough", Bench.of("A=chain(any,any any);").made("a--b"), "4 (97?98)");
        due("the second's nothing", Bench.of("A=chain(any,cut);").made("ab"), "-6 ");
        due("the second's nothing", Bench.of("A=chain(any,not('x'));").made("abx"), "2 (97?98)");
        due("the second's name", Bench.of("A=chain(any,B);B='('any')';").made("a(*)b"), "5 (97*98)");
        due("the last second is left out", Bench.of("A=chain(digit,'-');").made("1-2-"), "3 (1-2)");
    }

    private static int worth(String grammar, String input) {
        Bench bench = Bench.of(grammar);
        bench.parse(input);
        return bench.x.worth();
    }

    private static void promise8() {
        String sum = "A=chain(B,'+'|'-');B=chain(C,'*');C=digit+|'('cut A')';";
        due("a sum", worth(sum, "12+3*(4-1)"), 21);
        due("leans left", worth(sum, "9-5-3"), 1);
        due("less than 0", worth(sum, "1-(2-3*9)"), 26);
        due("a leaf", worth("A=any;", "a"), 97);
        due("a digit", worth("A=digit;", "7"), 7);
        due("digits", worth("A=digit*;", "907"), 907);
        due("no digits", worth("A=digit*;", ""), 0);
        due("a bough of bytes", worth("A=any any any;", "abc"), 97 * 100 + 98 * 10 + 99);
        due("a bough in a bough", worth("A=digit(digit digit)digit;", "1234"), 10 * (10 * 1 + 23) + 4);
        due("another byte", worth("A=chain(digit,'/');", "8/2"), 0);
        due("? worth 0", worth("A=chain(digit,not('x'));", "82x"), 0);
        due("a digit is no sign", worth("A=chain(digit,digit);", "852"), 0);
        due("wraps", worth("A=digit*;", "4294967297"), 1);
        due("wraps", worth("A=digit*;", "2147483648"), Integer.MIN_VALUE);
        due("times wraps", worth(sum, "65536*65536"), 0);
        due("no tree", worth("A=digit;", "x"), 0);
        due("nothing", worth("A=cut;", "x"), 0);
        due("ended", worth("A=A;", "x"), 0);
        due("STATE", new Parsers().worth(), -3);
        Bench bench = Bench.of("A=digit*;");
        bench.parse("42");
        bench.x.drawn(0, 1, 9, 9);
        due("drawn leaves it", bench.x.worth(), 42);
    }

    private static void promise9() {
        Bench bench = Bench.of("A=chain(B,[*/]);B=any digit*;");
        due("text", bench.made("a12*b/" + (char) 200), "7 (([97,[1,2]]*[98,[]])/[200,[]])");
        due("first", bench.x.text(0), '(');
        due("ahead of it", bench.x.text(-1), -1);
        due("behind it", bench.x.text(33), -1);
        due("far behind it", bench.x.text(Integer.MAX_VALUE), -1);
        due("far ahead of it", bench.x.text(Integer.MIN_VALUE), -1);
        due("STATE", new Parsers().text(-1), -3);
        bench.x.drawn(0, 1, 9, 9);
        due("drawn leaves it", bench.text(), "(([97,[1,2]]*[98,[]])/[200,[]])");
        due("numbers", Bench.of("A=any*;").made("" + (char) 0 + (char) 9 + (char) 10 + (char) 99 + (char) 100 + (char) 255),
            "6 [0,9,10,99,100,255]");
        due("byte 0 and a high byte", Bench.of("A=chain(digit,any);").made("1" + (char) 0 + "2" + (char) 250 + "3"),
            "5 ((1?2)" + (char) 250 + "3)");
        due("digit 0", Bench.of("A=chain(any,digit);").made("a0b"), "3 (97?98)");
        due("boughs in boughs", Bench.of("A=(any*any?)digit?;").made("x"), "1 [[[120],[]],[]]");
        bench.parse("");
        due("none", bench.x.text(0), -1);
        Bench left = Bench.of("A=chain(any,'+');");
        String want = "(".repeat(60) + "120" + "+120)".repeat(60);
        due("a long chain", left.made("x+".repeat(60) + "x"), "121 " + want);
    }

    private static void promise10() {
        Bench bench = Bench.of("A='a'|B;B=end C;C='c'*;D=not('d')look('e')cut F;F=try('f')|as(A any);H=chain(G?,H)H;G=(C'g')+;");
        int[][] want = {{1, 1, 0, 1}, {1, 1, 0, 1}, {1, 1, 0, 1}, {1, 0, 0, 3}, {0, -1, -1, -1}, {1, 0, 0, 3}, {1, 0, 0, 1}, {1, 0, 1, 0}};
        for (int rule = 0; rule < 8; rule++) {
            for (int what = 0; what < 4; what++) {
                due("rule " + rule + " " + what, bench.x.rule(rule, what), want[rule][what]);
            }
        }
        due("BAD", bench.x.rule(-1, 0), -2);
        due("BAD", bench.x.rule(8, 1), -2);
        due("BAD", bench.x.rule(0, 4), -2);
        due("BAD", bench.x.rule(4, -1), -2);
        due("BAD ahead of NONE", bench.x.rule(4, 4), -2);
        due("NONE", new Parsers().rule(0, 3), -1);
        nothing();
        self();
    }

    private static void nothing(String body, int want) {
        Bench bench = new Bench();
        bench.grammar("A=" + body + ";B='b';C=cut;");
        due("nothing " + body, bench.x.rule(0, 1), want);
    }

    private static void nothing() {
        String[] may = {"end", "cut", "not('a')", "look('a')", "'a'*", "'a'?", "try(cut)", "as(cut)", "cut+", "(cut)", "C", "C end",
            "'a'|C", "chain(cut,'a')", "look('a')?", "(B?)+", "try('a'|C)", "A|C"};
        String[] don = {"'a'", "[az]", "digit", "any", "try('a')", "as('a')", "'a'+", "('a')", "B", "C B", "'a'|B", "chain('a',cut)",
            "A", "A|B", "try(C any)", "B+"};
        for (String body : may) {
            nothing(body, 1);
        }
        for (String body : don) {
            nothing(body, 0);
        }
    }

    private static void self(String grammar, String want) {
        Bench bench = Bench.of(grammar);
        StringBuilder got = new StringBuilder();
        for (int rule = 0; rule < 8; rule++) {
            if (bench.x.rule(rule, 2) == 1) {
                got.append((char) ('A' + rule));
            }
        }
        due("self " + grammar, got.toString(), want);
    }

    private static void self() {
        self("A=A;", "A");
        self("A='a'A;", "");
        self("A='a'?A;", "A");
        self("A='a'*A;", "A");
        self("A='a'+A;", "");
        self("A=cut end look('a')not('a')A;", "A");
        self("A='a'|'b'|A'c';", "A");
        self("A=B'a';B=C|any;C=A;D=A;", "ABC");
        self("A=any B;B=C;C=B;", "BC");
        self("A=try(A);B=not(B);C=look(C);D=as(D);E=E*;F=F+;G=G?;H=(H);", "ABCDEFGH");
        self("A=try('a'A)not(any A)look(digit A)as(['z]A);", "");
        self("A=chain(A,'a');", "A");
        self("A=chain('a',A);", "");
        self("A=chain('a'?,A);", "A");
        self("A=chain(cut,'a'A);", "");
        self("A=chain(cut,any)A;", "A");
        self("A=B A;B=cut;", "A");
        self("A=B A;B=any;", "");
        self("A=(cut|any)A;", "A");
    }

    private static void promise11() {
        Bench bench = Bench.of(" A='a'['z]digit(any)B;B= end not(as('b'))cut try(' ');");
        int[][] want = {{3, 0, 'a', 'a'}, {6, 1, '\'', 'z'}, {10, 2, -1, -1}, {16, 3, -1, -1}, {25, 4, -1, -1}, {29, 5, -1, -1},
            {33, 6, -1, -1}, {36, 0, 'b', 'b'}, {49, 0, ' ', ' '}};
        due("atoms", bench.x.count(1), want.length);
        for (int k = 0; k < want.length; k++) {
            for (int what = 0; what < 4; what++) {
                due("atom " + k + " " + what, bench.x.atom(k, what), want[k][what]);
            }
        }
        due("NONE", bench.x.atom(9, 0), -1);
        due("NONE", bench.x.atom(-1, 0), -1);
        due("NONE", bench.x.atom(Integer.MAX_VALUE, 0), -1);
        due("NONE", bench.x.atom(Integer.MIN_VALUE, 0), -1);
        due("BAD", bench.x.atom(0, 4), -2);
        due("BAD", bench.x.atom(0, -1), -2);
        due("BAD ahead of NONE", bench.x.atom(9, 4), -2);
        Bench last = Bench.of("A=" + "'a'".repeat(31) + "[" + (char) 128 + (char) 255 + "];");
        due("the 32nd", last.x.atom(31, 2), 128);
        due("the 32nd", last.x.atom(31, 3), 255);
        due("no 33rd", last.x.atom(32, 0), -1);
    }

    private static int drawnByHand(String from, int seed, int n, int m, String sought) {
        int z = seed;
        int found = 0;
        for (int k = 0; k < m; k++) {
            StringBuilder input = new StringBuilder();
            for (int b = 0; b < n; b++) {
                z = z * 1103515245 + 12345;
                input.append(from.charAt((z >>> 9) % from.length()));
            }
            if (input.toString().matches(sought)) {
                found++;
            }
        }
        return found;
    }

    private static void promise12() {
        Bench bench = Bench.of("A='a'*'b';B=('a'|'b'|'a')+;C='c'?A;");
        bench.parse("aab");
        for (int seed : new int[] {0, 1, -1, 77, Integer.MIN_VALUE, Integer.MAX_VALUE}) {
            for (int n : new int[] {1, 2, 3, 20}) {
                due("drawn A " + seed, bench.x.drawn(0, seed, n, 20), drawnByHand("ababac", seed, n, 20, "a*b"));
                due("drawn B " + seed, bench.x.drawn(1, seed, n, 13), drawnByHand("ababac", seed, n, 13, "[ab]+"));
                due("drawn C " + seed, bench.x.drawn(2, seed, n, 1), drawnByHand("ababac", seed, n, 1, "c?a*b"));
            }
        }
        due("what was parsed stays", bench.text(), "[97,97]");
        due("input stays", bench.x.count(2), 3);
        due("told stays", bench.x.told(2), 4);
        Bench twice = Bench.of("A='a''a''b'|any;");
        due("one byte twice", twice.x.drawn(0, 3, 3, 20), drawnByHand("aab", 3, 3, 20, "aab"));
        Bench mostly = Bench.of("A='b'*;B='a''a''a''a';");
        due("one byte four times", mostly.x.drawn(0, 9, 1, 20), drawnByHand("baaaa", 9, 1, 20, "b"));
        Bench digits = Bench.of("A=[05]+;");
        due("none quoted", digits.x.drawn(0, 5, 2, 20), drawnByHand("0123456789", 5, 2, 20, "[0-5]+"));
        due("one that loops isn't done", Bench.of("A='a'*cut*;").x.drawn(0, 1, 3, 20), 0);
        due("one that fails isn't done", Bench.of("A='a'any any;").x.drawn(0, 1, 2, 20), 0);
        due("at the end", Bench.of("A='a'any any;").x.drawn(0, 1, 3, 20), 20);
        due("not ahead of the end", Bench.of("A='a'any any;").x.drawn(0, 1, 4, 20), 0);
        int[][] bad = {{-1, 1, 1}, {8, 1, 1}, {3, 1, 1}, {0, 0, 1}, {0, 21, 1}, {0, -1, 1}, {0, 1, 0}, {0, 1, 21}, {0, 1, -1}};
        for (int[] one : bad) {
            due("BAD", bench.x.drawn(one[0], 1, one[1], one[2]), -2);
        }
        due("no parse, still none", digits.x.told(0), -3);
        due("steps of drawn", Bench.of("A=any any;").x.drawn(0, 1, 2, 20), 20);
    }

    private static void promise13() {
        Bench bench = Bench.of("A=any B;B='b'|end;");
        due("rules", bench.x.count(0), 2);
        due("atoms", bench.x.count(1), 3);
        bench.input("abc");
        bench.feed("xy");
        due("input", bench.x.count(2), 3);
        due("tape", bench.x.count(3), 2);
        due("no steps", bench.x.count(4), 0);
        bench.x.parse(0, 0);
        due("steps", bench.x.count(4), 3);
        bench.x.parse(0, 2);
        due("steps of all", bench.x.count(4), 3 + 4);
        bench.x.parse(9, 0);
        due("none by BAD", bench.x.count(4), 7);
        bench.x.drawn(0, 1, 1, 5);
        due("those of drawn, too", bench.x.count(4), 7 + 20);
        bench.x.input();
        bench.grammar("A=any;");
        due("they stay", bench.x.count(4), 27);
        due("rules", bench.x.count(0), 1);
        due("BAD", bench.x.count(5), -2);
        due("BAD", bench.x.count(-1), -2);
        due("BAD", bench.x.count(Integer.MAX_VALUE), -2);
    }

    /** The example that README.md shows. */
    private static void readme() {
        Bench bench = Bench.of("A=chain(digit,'+'|'-');");
        due("input", bench.input("7-2+4"), 5);
        due("parse", bench.x.parse(0, 0), 5);
        due("worth", bench.x.worth(), 9);
        due("text", bench.text(), "((7-2)+4)");
        due("far", bench.x.told(0), 5);
        due("wanted", bench.x.told(1), 6);
    }
}
