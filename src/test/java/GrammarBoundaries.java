import java.util.List;

/** Boundaries of promises 3, 10 and 11: what is a grammar, where its fault is, its rules and atoms. */
final class GrammarBoundaries {
    private static final int MIN = Integer.MIN_VALUE, MAX = Integer.MAX_VALUE;

    private GrammarBoundaries() {
    }

    static List<Sentence> sentences() {
        return List.of(
            new Sentence(3, "RULES, one or more, on end", GrammarBoundaries::oneRuleOrMore),
            new Sentence(3, "NAME a letter A .. H", GrammarBoundaries::firstAndLastName),
            new Sentence(3, "no two RULES of one NAME", GrammarBoundaries::ruleTwice),
            new Sentence(3, "ALT: SEQ { | SEQ }. SEQ: ITEM { ITEM }.", GrammarBoundaries::emptySequence),
            new Sentence(3, "PART, perhaps with one of * + ? behind", GrammarBoundaries::oneSignBehind),
            new Sentence(3, "or try not look as, each with ( ALT ) behind, or chain ( ALT , ALT )", GrammarBoundaries::bracketsBehind),
            new Sentence(3, "any byte but ' between two of these", GrammarBoundaries::quotedByte),
            new Sentence(3, "the first no more than the second", GrammarBoundaries::firstNoMore),
            new Sentence(3, "The place of a second that is less than the first is that of the second.", GrammarBoundaries::secondLess),
            new Sentence(3, "Blanks (32) may stand ahead of each sign, WORD, NAME, and at the end", GrammarBoundaries::blanks),
            new Sentence(3, "not within ' ' and [ ]", GrammarBoundaries::noBlanksWithin),
            new Sentence(3, "A WORD is as long as letters a .. z stand.", GrammarBoundaries::longWord),
            new Sentence(3, "A word that there is not is a FAULT at its first byte.", GrammarBoundaries::noWord),
            new Sentence(3, "the first byte (not a blank) of the first of these that can't stand there", GrammarBoundaries::straySigns),
            new Sentence(3, "of the byte within ' ' or [ ] that can't (a ', a second less than the first; what lacks then)",
                GrammarBoundaries::faultWithin),
            new Sentence(3, "the text's size if it ends too early", GrammarBoundaries::endsTooEarly),
            new Sentence(3, "of a ( that would be the 9th open", GrammarBoundaries::ninthOpen),
            new Sentence(3, "else, of all NAMES in ALTS that no RULE has, the first one's place", GrammarBoundaries::unknownName),
            new Sentence(3, "32 at most: that of the 33rd is a FAULT, too", GrammarBoundaries::atom33),
            new Sentence(3, "THE TAPE, which is empty then (by a FAULT, too), becomes the GRAMMAR: how many RULES",
                GrammarBoundaries::tapeIsEmptyThen),
            new Sentence(3, "-100 less the FAULT", GrammarBoundaries::leastAndMostFault),
            new Sentence(3, "the GRAMMAR of before stays", GrammarBoundaries::grammarStays),
            new Sentence(3, "What was PARSED is forgotten if it becomes so.", GrammarBoundaries::grammarForgets),
            new Sentence(10, "BAD: no number of a RULE, what; NONE: it isn't there (what 1 .. 3)", GrammarBoundaries::badRule),
            new Sentence(10, "BAD, else STATE, else NONE", GrammarBoundaries::badAheadOfNone),
            new Sentence(10, "whether it is there (what 0; 1, 0)", GrammarBoundaries::whetherThere),
            new Sentence(10, "how many ATOMS stand in it (3)", GrammarBoundaries::leastAndMostAtoms),
            new Sentence(10, "a RULE may be DONE where it began: ' ', [ ], digit, any don't; end, cut, not, look, *, ? do",
                GrammarBoundaries::emptyParts),
            new Sentence(10, "+ , try, as as within; SEQ if all do; ALT if one does", GrammarBoundaries::emptyAsWithin),
            new Sentence(10, "chain as its first ALT", GrammarBoundaries::emptyChain),
            new Sentence(10, "a NAME as its RULE (the least such answer)", GrammarBoundaries::leastAnswer),
            new Sentence(10, "by PARTS of SEQS ahead of which all may be NOTHING", GrammarBoundaries::selfBehindNothing),
            new Sentence(10, "of a chain the second ALT, if the first may be NOTHING, likewise", GrammarBoundaries::selfOfChain),
            new Sentence(10, "within try, not, look, as, *, +, ? likewise", GrammarBoundaries::selfWithin),
            new Sentence(11, "NONE; BAD.", GrammarBoundaries::badAtom),
            new Sentence(11, "BAD, else STATE, else NONE", GrammarBoundaries::badAheadOfNoAtom),
            new Sentence(11, "numbered from 0 as they come in the text", GrammarBoundaries::atomsAsTheyCome),
            new Sentence(11, "its second (3; of ' ' the same; -1: it has none)", GrammarBoundaries::bytesOfAtoms));
    }

    private static void due(String what, long got, long want) {
        Bench.due(what, got, want);
    }

    private static void fault(String grammar, int place) {
        due("grammar " + grammar, new Bench().grammar(grammar), -100 - place);
    }

    private static void stands(String grammar, int rules) {
        due("grammar " + grammar, new Bench().grammar(grammar), rules);
    }

    // ---- promise 3

    private static void oneRuleOrMore() {
        fault("", 0);
        fault(" ", 1);
        stands("A=any;", 1);
        stands("A=any;B=any;", 2);
        stands("H=any;G=any;F=any;E=any;D=any;C=any;B=any;A=any;", 8);
        fault("A=any;B", 7);
        fault("A=any;;", 6);
        fault("A=any;any", 6);
    }

    private static void firstAndLastName() {
        stands("A=any;", 1);
        stands("H=any;", 1);
        for (char sign : new char[] {'@', 'I', 'Z', 'a', 'h', '1', (char) ('A' + 128), (char) 0, (char) 255}) {
            fault(sign + "=any;", 0);
            fault("A=any;" + sign + "=any;", 6);
            if (sign != 'a' && sign != 'h') {
                fault("A=any " + sign + ";", 6);
            }
        }
        fault("AB=any;", 1);
        stands("A=H;H=A;", 2);
    }

    private static void ruleTwice() {
        fault("A=any;A=any;", 6);
        fault("A=any; A", 7);
        fault("H=any;B=any;H=any;", 12);
        fault("A=A;B=A;C=A;D=A;E=A;F=A;G=A;H=A;A=A;", 32);
        fault("A=A;B=A;C=A;D=A;E=A;F=A;G=A;H=A;H=A;", 32);
        fault("A=A;B=A;C=A;D=A;E=A;F=A;G=A;H=A;I=A;", 32);
        stands("B=any;A=any;", 2);
    }

    private static void emptySequence() {
        fault("A=;", 2);
        fault("A= ;", 3);
        fault("A=|any;", 2);
        fault("A=any|;", 6);
        fault("A=any||any;", 6);
        fault("A=();", 3);
        fault("A=(any|);", 7);
        fault("A=try();", 6);
        fault("A=chain(,any);", 8);
        fault("A=chain(any,);", 12);
        stands("A=any|any|any;", 1);
        stands("A=any any any;", 1);
    }

    private static void oneSignBehind() {
        stands("A=any;", 1);
        for (char sign : "*+?".toCharArray()) {
            stands("A=any" + sign + ";", 1);
            stands("A=(any)" + sign + "A" + sign + "'a'" + sign + "[ab]" + sign + "try(any)" + sign + ";", 1);
            fault("A=" + sign + ";", 2);
            fault("A=any|" + sign + "any;", 6);
            fault("A=(" + sign + "any);", 3);
            for (char other : "*+?".toCharArray()) {
                fault("A=any" + sign + other + ";", 6);
                fault("A=any" + sign + " " + other + ";", 7);
            }
        }
    }

    private static void quotedByte() {
        for (int sign = 0; sign < 256; sign++) {
            if (sign == '\'') {
                fault("A=''';", 3);
            } else {
                Bench bench = new Bench();
                due("grammar of byte " + sign, bench.grammar("A='" + (char) sign + "';"), 1);
                due("its byte " + sign, bench.x.atom(0, 2), sign);
                due("it is the byte " + sign, bench.parse("" + (char) sign), 1);
            }
        }
        fault("A='';", 3);
        fault("A='ab';", 4);
    }

    private static void firstNoMore() {
        stands("A=[aa];", 1);
        stands("A=[ab];", 1);
        stands("A=[" + (char) 0 + (char) 255 + "];", 1);
        stands("A=[" + (char) 0 + (char) 0 + "];", 1);
        stands("A=[" + (char) 255 + (char) 255 + "];", 1);
        stands("A=[" + (char) 127 + (char) 128 + "];", 1);
        stands("A=[']];", 1);
        stands("A=[[]];", 1);
        stands("A=[''];", 1);
        stands("A=[  ];", 1);
    }

    private static void secondLess() {
        fault("A=[ba];", 4);
        fault("A=any[zy", 7);
        fault("A=[" + (char) 255 + (char) 254 + "];", 4);
        fault("A=[" + (char) 128 + (char) 127 + "];", 4);
        fault("A=[" + (char) 1 + (char) 0 + "];", 4);
        fault("A=[a ];", 4);
        fault("A=[a];", 4);
    }

    // Two rules, sign by sign; where no blank stands, none is needed.
    private static final String[] SIGNS = {"A", "=", "(", "'a'", "|", "[bc]", ")", "*", "digit", "+", "any", "?", "B", ";", "B", "=", "chain",
        "(", "try", "(", "end", ")", ",", "not", "(", "cut", ")", ")", "look", "(", "as", "(", "B", ")", ")", ";"};

    /** The signs, with this ahead of the one at a place of them. */
    private static String withAhead(int place, String what) {
        StringBuilder to = new StringBuilder();
        for (int k = 0; k < SIGNS.length; k++) {
            to.append(k == place ? what : "").append(SIGNS[k]);
        }
        return to + (place == SIGNS.length ? what : "");
    }

    private static int placeOf(int sign) {
        int place = 0;
        for (int k = 0; k < sign; k++) {
            place += SIGNS[k].length();
        }
        return place;
    }

    private static void blanks() {
        for (int k = 0; k <= SIGNS.length; k++) {
            stands(withAhead(k, " "), 2);
            stands(withAhead(k, "   "), 2);
            fault(withAhead(k, "\t"), placeOf(k));
            fault(withAhead(k, " \n"), placeOf(k) + 1);
        }
        String bare = "A=('a'|[bc])*B;B=chain(digit,any)try(end)cut;";
        String blank = "  A  =  (  'a'  |  [bc]  )  *  B  ;  B  =  chain  (  digit  ,  any  )  try  (  end  )  cut  ;  ";
        stands(bare, 2);
        stands(blank, 2);
        for (char sign : new char[] {31, 33, 9, 10, 13, 0, 160}) {
            fault(sign + "A=any;", 0);
            fault("A" + sign + "=any;", 1);
            fault("A=" + sign + "any;", 2);
            fault("A=any" + sign + ";", 5);
            fault("A=any;" + sign, 6);
        }
        fault("A=an y;", 2);
        stands("A=A A;", 1);
    }

    private static void noBlanksWithin() {
        fault("A=' a';", 4);
        fault("A='a ';", 4);
        fault("A='  ';", 4);
        fault("A=[ ab];", 5);
        fault("A=[a b];", 4);
        fault("A=[ab ];", 5);
        Bench bench = Bench.of("A=' '[ a];");
        due("a blank is a byte there", bench.x.atom(0, 2), ' ');
        due("a blank is a byte there", bench.x.atom(1, 2), ' ');
    }

    private static void longWord() {
        stands("A=any any;", 1);
        fault("A=anyany;", 2);
        fault("A=digitend;", 2);
        fault("A=cuta;", 2);
        fault("A=cutz;", 2);
        fault("A=tryx(any);", 2);
        fault("A=any any cuts;", 10);
        stands("A=cutA;", 1);
        stands("A=cut'a'cut[az]cut(any)cut;", 1);
        stands("A=cut*try(any)?as(any)|cut;", 1);
        fault("A=any`;", 5);
        fault("A=any{;", 5);
        fault("A=any1;", 5);
        fault("A=any" + (char) ('a' + 128) + ";", 5);
    }

    private static void noWord() {
        for (String word : new String[] {"a", "z", "an", "anyone", "digi", "en", "ends", "cu", "tr", "no", "nota", "loo", "looks", "ass", "chai",
            "chains", "foo", "yna"}) {
            fault("A=" + word + ";", 2);
            fault("A=" + word + "(any);", 2);
            fault("A=any   " + word, 8);
            fault("A=B|(any " + word + "  ", 9);
        }
        for (String word : new String[] {"digit", "any", "end", "cut", "try", "not", "look", "as", "chain"}) {
            for (int k = 0; k < word.length(); k++) {
                fault("A=" + word.substring(0, k) + 'x' + word.substring(k + 1) + "(any);", 2);
            }
        }
    }

    private static void straySigns() {
        for (int k = 0; k <= SIGNS.length; k++) {
            fault(withAhead(k, "]"), placeOf(k));
            fault(withAhead(k, "  ]"), placeOf(k) + 2);
            fault(withAhead(k, " x"), placeOf(k) + 1);
        }
        for (char sign : ";=)],*+?|".toCharArray()) {
            fault("A= " + sign, 3);
            fault("  " + sign, 2);
            fault("A=(  " + sign, 5);
        }
        fault("A", 1);
        fault("A any;", 2);
        fault("A==any;", 2);
        fault("A=any=;", 5);
        fault("A=any);", 5);
        fault("A=any];", 5);
        fault("A=any,any;", 5);
        fault("A=(any;", 6);
        fault("A=(any,any);", 6);
        fault("A=chain(any|any any);", 19);
        fault("A=* ) ;", 2);
    }

    private static void bracketsBehind() {
        for (String word : new String[] {"try", "not", "look", "as", "chain"}) {
            fault("A=" + word + ";", 2 + word.length());
            fault("A=" + word + "  any;", 4 + word.length());
            fault("A=" + word + "'a';", 2 + word.length());
            fault("A=" + word + "*(any);", 2 + word.length());
            fault("A=" + word + "B(any);B=any;", 2 + word.length());
            fault("A=" + word + "();", 3 + word.length());
            fault("A=" + word + "(any", 6 + word.length());
        }
        for (String word : new String[] {"try", "not", "look", "as"}) {
            stands("A=" + word + "(any|any any);", 1);
            fault("A=" + word + "(any,any);", 6 + word.length());
        }
        stands("A=chain(any|cut any,any|any any);", 1);
        fault("A=chain(any);", 11);
        fault("A=chain(any any);", 15);
        fault("A=chain(any,);", 12);
        fault("A=chain(any,any,any);", 15);
        for (String word : new String[] {"digit", "any", "end", "cut"}) {
            stands("A=" + word + "(any);", 1);
            stands("A=" + word + "*any;", 1);
        }
        fault("A=(any,any);", 6);
    }

    private static void faultWithin() {
        fault("A=''';", 3);
        fault("A=''", 3);
        fault("A='a;", 4);
        fault("A='a\"", 4);
        fault("A=[ba];", 4);
        fault("A=[ab;", 5);
        fault("A=[abc];", 5);
        fault("A=[ab';", 5);
        fault("A=[]];", 5);
        stands("A=[]]];", 1);
    }

    private static void endsTooEarly() {
        String whole = "B='e'?;A='a'[bc](B|'d')*;";
        for (int size = 0; size < whole.length(); size++) {
            if (size != 7) {
                fault(whole.substring(0, size), size);
            }
        }
        stands(whole.substring(0, 7), 1);
        stands(whole, 2);
        String[] early = {"A=try", "A=not", "A=look", "A=as", "A=chain", "A=chain(", "A=chain(any", "A=chain(any,", "A=chain(any,cut",
            "A=chain(any,cut)", "A=digit", "A=end", "A=cut|", "A=any+", "A", "A=", "A=(", "A=(any", "A=(any)"};
        for (String text : early) {
            fault(text, text.length());
            fault(text + "   ", text.length() + 3);
        }
        fault("A=B", 3);
    }

    private static void ninthOpen() {
        stands("A=" + "(".repeat(8) + "any" + ")".repeat(8) + ";", 1);
        fault("A=" + "(".repeat(9) + "any" + ")".repeat(9) + ";", 10);
        fault("A=" + "(".repeat(8) + "  (", 12);
        for (String word : new String[] {"try", "not", "look", "as", "chain"}) {
            String first = "A=" + "(".repeat(8) + word;
            fault(first + "(any)" + ")".repeat(8) + ";", first.length());
            fault(first + "  (", first.length() + 2);
            String rest = word.equals("chain") ? ",any)" : ")";
            stands("A=" + (word + "(").repeat(8) + "any" + rest.repeat(8) + ";", 1);
            fault("A=" + (word + "(").repeat(8) + "((", 2 + 8 * (word.length() + 1));
            stands("A=" + (word + "(any" + rest).repeat(9) + ";", 1);
        }
        String seven = "A=" + "(".repeat(7) + "chain(any,";
        fault(seven + "(any))" + ")".repeat(7) + ";", seven.length());
        stands("A=" + "(".repeat(6) + "chain(any,(any))" + ")".repeat(6) + ";", 1);
        stands("A=" + "(".repeat(8) + "any" + ")".repeat(8) + "(".repeat(8) + "any" + ")".repeat(8) + ";", 1);
        stands("A=" + "(any)".repeat(20) + ";B=((((((((any))))))));", 2);
    }

    private static void unknownName() {
        fault("A=B;", 2);
        fault("A=any C B;", 6);
        fault("A=any C|C C;", 6);
        fault("A=any C;B=C D;", 6);
        fault("A=A H;C=B;", 4);
        fault("A=A C;C=(any D);", 13);
        fault("A=B C;C=D;D=E;", 2);
        for (char name = 'A'; name <= 'H'; name++) {
            fault((name == 'C' ? "D" : "C") + "=any|" + name + ";", 6);
        }
        stands("A=B;B=A;", 2);
        // The others come first, also where they stand behind it.
        fault("A=B;x", 4);
        fault("A=B", 3);
        fault("A=B;A=any;", 4);
        fault("A=B;C=((((((((( any", 14);
        fault("A=B " + "'a'".repeat(33) + ";", 100);
        Bench bench = Bench.of("A=any;B=any;C=any;");
        due("a rule of the grammar before is none", bench.grammar("A=B;"), -102);
    }

    private static void atom33() {
        String[] atoms = {"'b'", "[ab]", "digit", "any", "end", "not(A)", "as(A)"};
        String most = "A=" + "'a'".repeat(32);
        stands(most + ";", 1);
        for (String atom : atoms) {
            stands("A=" + "'a'".repeat(31) + atom + ";", 1);
            fault(most + "  " + atom + ";", 100);
            fault(most + ";B=" + atom + ";", 101);
            fault("A=" + (atom + " ").repeat(33) + ";", 2 + 32 * (atom.length() + 1));
        }
        stands(most + "cut try(cut)look(A)chain(A,cut)(A);B=A;", 2);
        fault("A=" + "not(as(digit))".repeat(10) + "end any 'x';", 150);
        fault(most + "''", 98);
        fault(most + "as x", 98);
    }

    private static void tapeIsEmptyThen() {
        Bench bench = new Bench();
        bench.feed("A=any;");
        due("one rule", bench.x.grammar(), 1);
        due("the tape", bench.x.count(3), 0);
        due("an empty tape", bench.x.grammar(), -100);
        bench.feed("A=any");
        due("a fault", bench.x.grammar(), -105);
        due("the tape by a fault", bench.x.count(3), 0);
        due("fed anew", bench.x.feed(2, 'A' | '=' << 8), 2);
        bench.feed("A;");
        due("nothing was left", bench.x.grammar(), 1);
        due("eight", bench.grammar("A=A;B=B;C=C;D=D;E=E;F=F;G=G;H=H;"), 8);
        due("a full tape", bench.grammar("A=any" + " ".repeat(234) + ";"), 1);
        due("room again", bench.x.feed(4, 0), 4);
    }

    private static void leastAndMostFault() {
        fault("x", 0);
        fault("", 0);
        fault("A=any;" + " ".repeat(233) + "x", 239);
        fault(" ".repeat(240), 240);
        fault("A=any" + " ".repeat(235), 240);
    }

    private static void grammarStays() {
        Bench bench = Bench.of("A='a'B;B=digit*;");
        bench.input("a12");
        for (String broken : new String[] {"", "A", "A=any;B=any;C=D;", "C=''';", "A=" + "any ".repeat(33) + ";", "A=((((((((("}) {
            due("fault of " + broken, bench.grammar(broken) <= -100 ? 1 : 0, 1);
            due("rules", bench.x.count(0), 2);
            due("atoms", bench.x.count(1), 2);
            due("rule C", bench.x.rule(2, 0), 0);
            due("rule B may be nothing", bench.x.rule(1, 1), 1);
            due("rule A may not", bench.x.rule(0, 1), 0);
            due("atom 1 is digit", bench.x.atom(1, 1), 2);
            due("parse", bench.x.parse(0, 0), 3);
            due("drawn from 'a' alone", bench.x.drawn(0, 1, 1, 20), 20);
        }
        due("another", bench.grammar("C=any;"), 1);
        due("rule A is no more", bench.x.rule(0, 0), 0);
        due("nor its atoms", bench.x.atom(1, 0), -1);
    }

    private static void grammarForgets() {
        Bench bench = Bench.of("A=any;");
        bench.parse("x");
        due("a fault", bench.grammar("A=any;A"), -106);
        due("nodes after a fault", bench.x.told(5), 1);
        due("node after a fault", bench.x.node(0, 1), 'x');
        due("worth after a fault", bench.x.worth(), 'x');
        Bench.due("text after a fault", bench.text(), "120");
        due("the same grammar", bench.grammar("A=any;"), 1);
        for (int what = 0; what <= 5; what++) {
            due("told", bench.x.told(what), -3);
        }
        due("node", bench.x.node(0, 0), -3);
        due("worth", bench.x.worth(), -3);
        due("text", bench.x.text(0), -3);
        due("the input stays", bench.x.count(2), 1);
    }

    // ---- promise 10

    private static void badRule() {
        Bench bench = Bench.of("A=any;H='a';");
        for (int what = 0; what <= 3; what++) {
            for (int rule : new int[] {-1, 8, 9, MIN, MAX}) {
                due("rule " + rule + " " + what, bench.x.rule(rule, what), -2);
            }
            for (int rule : new int[] {1, 6}) {
                due("rule " + rule + " " + what, bench.x.rule(rule, what), what == 0 ? 0 : -1);
            }
        }
        for (int rule : new int[] {0, 7}) {
            for (int what : new int[] {-1, 4, 5, MIN, MAX}) {
                due("rule " + rule + " " + what, bench.x.rule(rule, what), -2);
            }
        }
        due("the last rule", bench.x.rule(7, 3), 1);
    }

    private static void badAheadOfNone() {
        for (int rule = 0; rule < 8; rule++) {
            due("what -1 of none", new Parsers().rule(rule, -1), -2);
            due("what 4 of none", new Parsers().rule(rule, 4), -2);
            due("what 3 of none", new Parsers().rule(rule, 3), -1);
        }
    }

    private static void whetherThere() {
        Bench bench = Bench.of("A=any;C=any;H=any;");
        int[] want = {1, 0, 1, 0, 0, 0, 0, 1};
        for (int rule = 0; rule < 8; rule++) {
            due("rule " + rule, bench.x.rule(rule, 0), want[rule]);
        }
    }

    private static void leastAndMostAtoms() {
        Bench bench = Bench.of("B=A;A=" + "'a'".repeat(30) + "not(as(cut));C=try(cut)look(B)chain(C,B);");
        due("none", bench.x.rule(1, 3), 0);
        due("32", bench.x.rule(0, 3), 32);
        due("none behind them", bench.x.rule(2, 3), 0);
        Bench parted = Bench.of("A='a'|[bc]|digit|any|end|not(cut)|as(cut);H=any;");
        due("each sort", parted.x.rule(0, 3), 7);
        due("its own alone", parted.x.rule(7, 3), 1);
    }

    /** Of rule A, when it is this; B takes a byte, C takes none. */
    private static void nothing(String body, int want) {
        due("A=" + body + " may be nothing", Bench.of("A=" + body + ";B='b';C=cut;").x.rule(0, 1), want);
    }

    private static void emptyParts() {
        for (String body : new String[] {"'a'", "[az]", "digit", "any"}) {
            nothing(body, 0);
            nothing("(" + body + ")", 0);
            nothing(body + "*", 1);
            nothing(body + "?", 1);
            nothing("not(" + body + ")", 1);
            nothing("look(" + body + ")", 1);
        }
        nothing("end", 1);
        nothing("cut", 1);
    }

    private static void emptyAsWithin() {
        for (String word : new String[] {"try", "as", ""}) {
            nothing(word + "(cut)", 1);
            nothing(word + "('a')", 0);
            nothing(word + "('a'|cut)", 1);
            nothing(word + "(cut|'a')", 1);
            nothing(word + "('a'|any)", 0);
            nothing(word + "(cut end)", 1);
            nothing(word + "(cut 'a')", 0);
            nothing(word + "('a' cut)", 0);
        }
        nothing("cut+", 1);
        nothing("any+", 0);
        nothing("('a'?)+", 1);
        nothing("B", 0);
        nothing("C", 1);
        nothing("'a'|B|C", 1);
        nothing("C C B", 0);
    }

    private static void emptyChain() {
        nothing("chain(cut,any)", 1);
        nothing("chain(any,cut)", 0);
        nothing("chain(any|cut,any)", 1);
        nothing("chain(any,cut)?", 1);
        nothing("chain(C,B)", 1);
    }

    private static void leastAnswer() {
        nothing("A", 0);
        nothing("A|C", 1);
        nothing("A A|B", 0);
        nothing("try(A)|as(A)|A+", 0);
        Bench ring = Bench.of("A=B;B=C;C=A;D=A|E;E=F;F=G;G=H;H=end;");
        for (int rule = 0; rule < 8; rule++) {
            due("rule " + rule, ring.x.rule(rule, 1), rule < 3 ? 0 : 1);
        }
        Bench late = Bench.of("A=B;B=C;C=D;D=E;E=F;F=G;G=H;H=cut;");
        due("by all eight", late.x.rule(0, 1), 1);
        Bench early = Bench.of("H=G;G=F;F=E;E=D;D=C;C=B;B=A;A=cut;");
        due("by all eight, the other way", early.x.rule(7, 1), 1);
    }

    private static void self(String grammar, String want) {
        Bench bench = Bench.of(grammar);
        StringBuilder got = new StringBuilder();
        for (int rule = 0; rule < 8; rule++) {
            if (bench.x.rule(rule, 2) == 1) {
                got.append((char) ('A' + rule));
            }
        }
        Bench.due("self " + grammar, got.toString(), want);
    }

    private static void selfBehindNothing() {
        self("A=A;", "A");
        self("A=any A;", "");
        self("A=any?A;", "A");
        self("A=cut end not(any)look(any)any*A;", "A");
        self("A=cut any A;", "");
        self("A=cut any+A;", "");
        self("A=any|any|A;", "A");
        self("A=any B;B=C;C=B;", "BC");
        self("A=B any;B=C|any;C=A;D=A;", "ABC");
        self("A=B A;B=cut;", "A");
        self("A=B A;B=any;", "");
        self("A=B;B=C;C=D;D=E;E=F;F=G;G=H;H=A;", "ABCDEFGH");
        self("A=B;B=C;C=D;D=E;E=F;F=G;G=H;H=any A;", "");
        self("A=(cut|any)A;", "A");
        self("A=(any|any)A;", "");
        self("A=A A;", "A");
    }

    private static void selfOfChain() {
        self("A=chain(A,any);", "A");
        self("A=chain(any,A);", "");
        self("A=chain(any?,A);", "A");
        self("A=chain(cut,any A);", "");
        self("A=chain(cut,end A);", "A");
        self("A=chain(cut,any)A;", "A");
        self("A=chain(any,cut)A;", "");
        self("A=chain(B,A);B=cut;", "A");
        self("A=chain(B,A);B=any;", "");
    }

    private static void selfWithin() {
        self("A=try(A);B=not(B);C=look(C);D=as(D);E=E*;F=F+;G=G?;H=(H);", "ABCDEFGH");
        self("A=try(any A);B=not(any B);C=look(any C);D=as(any D);E=(any E)*;F=(any F)+;G=(any G)?;H=(any H);", "");
        self("A=try(any)A;B=as(any)B;C=any+C;D=(any)D;", "");
        self("A=try(cut)A;B=as(cut)B;C=not(any)C;D=look(any)D;E=any*E;F=cut+F;G=any?G;H=(cut)H;", "ABCDEFGH");
    }

    // ---- promise 11

    private static void badAtom() {
        Bench bench = Bench.of("A='a'any;");
        for (int what = 0; what <= 3; what++) {
            for (int atom : new int[] {-1, 2, 3, 31, 32, 33, MIN, MAX}) {
                due("atom " + atom + " " + what, bench.x.atom(atom, what), -1);
            }
        }
        for (int what : new int[] {-1, 4, 5, MIN, MAX}) {
            due("atom 0 " + what, bench.x.atom(0, what), -2);
        }
        due("a grammar of none", Bench.of("A=cut;").x.atom(0, 0), -1);
        Bench most = Bench.of("A=" + "any ".repeat(32) + ";");
        due("the last", most.x.atom(31, 0), 2 + 31 * 4);
        due("behind the last", most.x.atom(32, 0), -1);
    }

    private static void badAheadOfNoAtom() {
        Bench bench = Bench.of("A=any;");
        for (int atom : new int[] {-1, 1, 32, MIN, MAX}) {
            due("what 4 of atom " + atom, bench.x.atom(atom, 4), -2);
            due("what -1 of atom " + atom, bench.x.atom(atom, -1), -2);
        }
        due("what 4 of no grammar", new Parsers().atom(0, 4), -2);
    }

    private static void atomsAsTheyCome() {
        Bench bench = Bench.of("  B=not(as([ab]'c')digit)any;A= end cut try('x');");
        int[] places = {4, 8, 11, 15, 19, 25, 32, 44};
        int[] sorts = {5, 6, 1, 0, 2, 3, 4, 0};
        for (int k = 0; k < places.length; k++) {
            due("place of " + k, bench.x.atom(k, 0), places[k]);
            due("sort of " + k, bench.x.atom(k, 1), sorts[k]);
        }
        due("no more", bench.x.atom(places.length, 0), -1);
        Bench far = Bench.of("A=" + " ".repeat(234) + "any;");
        due("as far as may be", far.x.atom(0, 0), 236);
    }

    private static void bytesOfAtoms() {
        Bench bench = Bench.of("A='a'['z]digit any end not(cut)as(cut)'" + (char) 0 + "'[" + (char) 0 + (char) 255 + "]'" + (char) 255 + "';");
        int[][] want = {{'a', 'a'}, {'\'', 'z'}, {-1, -1}, {-1, -1}, {-1, -1}, {-1, -1}, {-1, -1}, {0, 0}, {0, 255}, {255, 255}};
        for (int k = 0; k < want.length; k++) {
            due("first byte of " + k, bench.x.atom(k, 2), want[k][0]);
            due("second byte of " + k, bench.x.atom(k, 3), want[k][1]);
        }
    }
}
