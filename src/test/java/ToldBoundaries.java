import java.util.List;

/** Boundaries of promise 6: what was expected, the steps, what memory answered, how large the tree is. */
final class ToldBoundaries {
    private static final int MIN = Integer.MIN_VALUE, MAX = Integer.MAX_VALUE;

    private ToldBoundaries() {
    }

    static List<Sentence> sentences() {
        return List.of(
            new Sentence(6, "BAD; STATE: there is none.", ToldBoundaries::badOrNone),
            new Sentence(6, "Of several such answers of one call: BAD, else STATE", ToldBoundaries::badAheadOfState),
            new Sentence(6, "Of the last PARSE", ToldBoundaries::lastParse),
            new Sentence(6, "FAR: the greatest PLACE at which something was EXPECTED that counts", ToldBoundaries::leastAndGreatestPlace),
            new Sentence(6, "WANTED: which ATOMS (bits) there", ToldBoundaries::firstAndLastBit),
            new Sentence(6, "Nothing: -1, 0.", ToldBoundaries::nothingExpected),
            new Sentence(6, "Else they FAIL, and EXPECT themselves there.", ToldBoundaries::expectThemselves),
            new Sentence(6, "else it FAILS and EXPECTS itself; never sharp; what is EXPECTED within it doesn't count",
                ToldBoundaries::withinNot),
            new Sentence(6, "if that FAILS, what was EXPECTED within it at the PLACE where it began doesn't count, but itself there",
                ToldBoundaries::withinAs),
            new Sentence(6, "What counts by not, as, is told as they answer", ToldBoundaries::asTheyAnswer),
            new Sentence(6, "if the PARSE ends within them, nothing of it", ToldBoundaries::endsWithin),
            new Sentence(6, "it isn't run (also what was EXPECTED isn't anew)", ToldBoundaries::notAnew),
            new Sentence(6, "STEPS (2; as many as it had)", ToldBoundaries::fewestSteps),
            new Sentence(6, "Of a PARSE that ends behind 1000 STEPS 1000 are told.", ToldBoundaries::mostSteps),
            new Sentence(6, "Each PART that is PARSED (also those answered by MEMORY) is a STEP.", ToldBoundaries::stepsByMemory),
            new Sentence(6, "how many were answered by MEMORY (3)", ToldBoundaries::answeredByMemory),
            new Sentence(6, "whether it was sharp (4; 1, 0)", ToldBoundaries::sharp),
            new Sentence(6, "how many NODES its TREE has (5; 0: nothing, or not DONE)", ToldBoundaries::leastAndMostNodes));
    }

    private static void due(String what, long got, long want) {
        Bench.due(what, got, want);
    }

    /** The answer, far, wanted, steps, answered by memory, sharp, nodes. */
    private static void due(String grammar, String input, String want) {
        Bench.due(grammar + " of " + input, Bench.of(grammar).parsed(input), want);
    }

    private static void badOrNone() {
        Bench bench = Bench.of("A=any;");
        for (int what = 0; what <= 5; what++) {
            due("no parse yet, " + what, bench.x.told(what), -3);
        }
        bench.x.parse(1, 0);
        bench.x.drawn(0, 1, 1, 1);
        due("BAD and drawn are none", bench.x.told(2), -3);
        bench.x.parse(0, 0);
        due("one that fails is one", bench.x.told(2), 1);
        for (int what : new int[] {-1, 6, 7, MIN, MAX}) {
            due("told " + what, bench.x.told(what), -2);
        }
    }

    private static void badAheadOfState() {
        Parsers x = new Parsers();
        for (int what : new int[] {-1, 6, MIN, MAX}) {
            due("told " + what + " of none", x.told(what), -2);
        }
        due("told 0 of none", x.told(0), -3);
    }

    private static void lastParse() {
        Bench bench = Bench.of("A=any any cut;B='x';C=cut*;");
        bench.input("ab");
        bench.x.parse(0, 0);
        Bench.due("done", bench.told(), "-1 0 3 0 1 3");
        bench.x.parse(1, 1);
        Bench.due("fails", bench.told(), "1 4 1 0 0 0");
        bench.x.parse(0, 0);
        bench.x.parse(2, 0);
        Bench.due("ends", bench.told(), "-1 0 1 0 0 0");
        bench.x.parse(0, 0);
        bench.x.parse(7, 0);
        bench.x.parse(0, 3);
        bench.x.drawn(1, 1, 1, 1);
        Bench.due("BAD and drawn leave it", bench.told(), "-1 0 3 0 1 3");
    }

    private static void leastAndGreatestPlace() {
        due("A='a';", "", "-5 0 1 1 0 0 0");
        due("A='a';", "b", "-5 0 1 1 0 0 0");
        due("A='a'*;", "a".repeat(240), "240 240 1 241 0 0 241");
        due("A='a''b''d'|'a''b''c'|'a';", "abx", "1 2 36 7 0 0 1");
        due("A='a''b''d'|'a''x'|'y';", "abx", "-5 2 4 6 0 0 0");
        due("A='y'|'a''x'|'a''b''d';", "abx", "-5 2 32 6 0 0 0");
        Bench bench = Bench.of("A=any*'x';");
        bench.input("a".repeat(240));
        bench.x.parse(0, 240);
        due("at the end", bench.x.told(0), 240);
        bench.x.parse(0, 239);
        due("ahead of it", bench.x.told(0), 240);
    }

    private static void firstAndLastBit() {
        String all = "'a'".repeat(31);
        Bench last = Bench.of("A=" + all + "'b';");
        last.parse("a".repeat(31));
        due("bit 31", last.x.told(1), MIN);
        last.parse("");
        due("bit 0", last.x.told(1), 1);
        last.parse("a".repeat(30));
        due("bit 30", last.x.told(1), 1 << 30);
        Bench each = Bench.of("A=" + "'a'|".repeat(31) + "'b';");
        each.parse("c");
        due("all of them", each.x.told(1), -1);
        Bench two = Bench.of("A='a'|'b''a'|end;");
        two.parse("c");
        due("bits 0, 1 and 3", two.x.told(1), 11);
    }

    private static void nothingExpected() {
        due("A=any;", "a", "1 -1 0 1 0 0 1");
        due("A=cut;", "", "0 -1 0 1 0 1 0");
        due("A=not('a');", "b", "0 -1 0 2 0 0 0");
        due("A=not('a'|not(cut));", "b", "0 -1 0 4 0 0 0");
        due("A=end;", "", "0 -1 0 1 0 0 0");
        due("A=cut*;", "", "-15 -1 0 1 0 0 0");
        due("A=A;", "", "-16 -1 0 1 0 0 0");
    }

    private static void expectThemselves() {
        due("A='a'|[bc]|digit|any|end;", "", "0 0 15 5 0 0 0");
        due("A='a'|[bc]|digit|end;", "x", "-5 0 15 4 0 0 0");
        due("A=end;", "x", "-5 0 1 1 0 0 0");
        due("A=any;", "", "-5 0 1 1 0 0 0");
        due("A=try('a')|look('b')|('c')|'d'?|'e'*;", "x", "0 0 15 7 0 0 1");
        due("A='d'*'e'+;", "x", "-5 0 3 2 0 0 0");
        due("A=chain('a','b');", "", "-5 0 1 2 0 0 0");
        due("A=chain('a','b');", "a", "1 1 2 3 0 0 1");
        due("A=chain('a','b');", "ab", "1 2 1 4 0 0 1");
    }

    private static void withinNot() {
        due("A=not('a''b');", "ab", "-5 0 1 3 0 0 0");
        due("A=not('a''b''c');", "abx", "0 -1 0 4 0 0 0");
        due("A=not('a''b''c')'y';", "abx", "-5 0 16 5 0 0 0");
        due("A='x'|not('a''b');", "ab", "-5 0 3 4 0 0 0");
        due("A='x'|not('a''b');", "ac", "0 0 1 4 0 0 0");
        due("A=any not(end);", "a", "-5 1 2 3 0 0 0");
        due("A=not(not('a'));", "b", "-5 0 1 3 0 0 0");
        due("A=not(as('a'))'b';", "c", "-5 0 8 4 0 0 0");
    }

    private static void withinAs() {
        due("A=as('a'|'b');", "c", "-5 0 1 3 0 0 0");
        due("A=as('a''b');", "ac", "-5 1 4 3 0 0 0");
        due("A=as('a'?'b');", "b", "1 0 2 3 0 0 1");
        due("A=as('a'?);", "b", "0 0 2 2 0 0 1");
        due("A=as(look('b''a'?));", "b", "0 1 4 4 0 0 1");
        due("A=as('a'?'b')'c';", "bx", "-5 1 8 4 0 0 0");
        due("A=as('a'?'b')'c';", "x", "-5 0 1 3 0 0 0");
        due("A=as(cut'a');", "b", "-6 0 1 3 0 1 0");
        due("A='a'|as('b'|'c')|'d';", "x", "-5 0 19 5 0 0 0");
        due("A=any as('b'|'c');", "ax", "-5 1 2 4 0 0 0");
        due("A=as('a'|as('b'));", "x", "-5 0 1 4 0 0 0");
        due("A=as('a'as('b''c'));", "abx", "-5 2 16 5 0 0 0");
        due("A=as(look('a'any)'b');", "a", "-5 1 4 4 0 0 0");
        due("A=as('y''z')|as('a''b');", "ac", "-5 1 32 5 0 0 0");
    }

    private static void asTheyAnswer() {
        // Then the PARSE ends, behind them.
        due("A=as('a')|A;", "c", "-16 0 1 3 0 0 0");
        due("A=as('a'?)A;", "c", "-16 0 2 3 0 0 0");
        due("A=not(look(any))|A;", "c", "-16 0 1 4 0 0 0");
        due("A=not('a')A;", "c", "-16 -1 0 3 0 0 0");
        due("A=not(as('a'))cut+;", "c", "-15 -1 0 4 0 0 0");
        due("A=as(not(any))|cut*;", "c", "-15 0 1 4 0 0 0");
    }

    private static void endsWithin() {
        due("A=not('a'?A);", "b", "-16 -1 0 3 0 0 0");
        due("A='x'?not('a'?A);", "b", "-16 0 1 4 0 0 0");
        due("A='x'|as('a'|cut+);", "b", "-15 0 1 4 0 0 0");
        due("A='x'|as('a''b'|cut+);", "ac", "-15 0 1 5 0 0 0");
        due("A=as('a')|A;", "c", "-16 0 1 3 0 0 0");
        due("A=not('a'?as('b'?A));", "c", "-16 -1 0 5 0 0 0");
        due("A='a'?A;", "b", "-16 0 1 2 0 0 0");
        due("A=look('a'?A);", "b", "-16 0 1 3 0 0 0");
        due("A=try('a'?A);", "b", "-16 0 1 3 0 0 0");
    }

    private static void notAnew() {
        due("A=not(B'x')B;B='a'|'b';", "b", "1 -1 0 6 1 0 1");
        due("A=not(B)B;B='a'|'b';", "c", "-5 -1 0 5 1 0 0");
        due("A=as(B)|B;B='a';", "c", "-5 0 1 4 1 0 0");
        due("A=B'x'|B'y';B='a''b'|'a';", "ab", "-5 2 3 6 1 0 0");
        due("A=any not(B)B;B='a';", "bc", "-5 -1 0 5 1 0 0");
    }

    private static void fewestSteps() {
        due("A=cut;", "", "0 -1 0 1 0 1 0");
        Bench bench = Bench.of("A=any*;");
        bench.input("a".repeat(240));
        for (int k = 0; k < 165; k++) {
            bench.x.parse(0, 0);
        }
        // 165 times 241 are 39765.
        due("it has 235 left", bench.x.parse(0, 0), -17);
        due("as many as it had", bench.x.told(2), 235);
        due("it has none", bench.x.parse(0, 0), -17);
        Bench.due("none", bench.told(), "-1 0 0 0 0 0");
    }

    private static void mostSteps() {
        Bench bench = Bench.of("A=('a'?'a'?'a'?'b')*;");
        bench.parse("b".repeat(199));
        due("1000 of 1000", bench.x.told(2), 1000);
        bench.parse("b".repeat(200));
        due("1000 of 1001", bench.x.told(2), 1000);
        due("1000 of all", bench.x.count(4), 2000);
        bench.parse("b".repeat(240));
        due("1000 of many", bench.x.told(2), 1000);
        bench.parse("b".repeat(198));
        due("995", bench.x.told(2), 995);
    }

    private static void stepsByMemory() {
        due("A=B B B;B=end;", "", "0 -1 0 4 2 0 0");
        due("A=B?B?B?;B='a';", "b", "0 0 1 4 2 0 4");
        due("A=('a')((cut));", "a", "1 -1 0 5 0 1 1");
        due("A=try(any)look(end)not(any)as(cut);", "a", "1 -1 0 8 0 1 1");
        due("A=chain(any,any);", "abc", "3 3 2 5 0 0 3");
        due("A=any*any?;", "a", "1 1 3 3 0 0 4");
    }

    private static void answeredByMemory() {
        due("A=B;B=any;", "a", "1 -1 0 2 0 0 1");
        due("A=look(B)B;B=any;", "a", "1 -1 0 4 1 0 3");
        due("A=B'x'|B'y'|B'z';B='a''b';", "abz", "3 2 3 8 2 0 1");
        due("A=B|B|B;B='a';", "b", "-5 0 1 4 2 0 0");
        due("A=B B;B=any;", "ab", "2 -1 0 4 0 0 3");
        due("A=B C;B=C;C=cut;", "", "0 -1 0 4 1 1 0");
        Bench bench = Bench.of("A=look(B)B;B=any;");
        bench.parse("a");
        for (int time = 0; time < 2; time++) {
            bench.x.parse(0, 0);
            due("none of the parse before", bench.x.told(3), 1);
            bench.x.parse(1, 0);
            due("none by the rule itself", bench.x.told(3), 0);
        }
        Bench ring = Bench.of("A=B B C;B=cut;C=A;");
        due("a ring", ring.parse(""), -16);
        due("is none that memory answered", ring.x.told(3), 1);
    }

    private static void sharp() {
        due("A=cut any;", "a", "1 -1 0 2 0 1 1");
        due("A=cut any;", "", "-6 0 1 2 0 1 0");
        due("A=any;", "a", "1 -1 0 1 0 0 1");
        due("A=any;", "", "-5 0 1 1 0 0 0");
        due("A=try(cut any);", "a", "1 -1 0 3 0 0 1");
        due("A=cut try(any);", "", "-6 0 1 3 0 1 0");
    }

    private static void leastAndMostNodes() {
        String grown = ";B=CCCCCCCC;C=DDDDDDDD;D=EEEEEEEE;E='x'?;";
        due("A=cut;", "", "0 -1 0 1 0 1 0");
        due("A=any;", "a", "1 -1 0 1 0 0 1");
        due("A='a'?;", "", "0 0 1 1 0 0 1");
        due("A='a';", "b", "-5 0 1 1 0 0 0");
        due("A=any any'x';", "ab", "-5 2 4 3 0 0 0");
        due("A=any any A;", "", "-5 0 1 1 0 0 0");
        Bench bench = Bench.of("A=BBBCCC D" + " E".repeat(16) + grown);
        bench.parse("");
        due("2000", bench.x.told(5), 2000);
        Bench more = Bench.of("A=BBBCCC D" + " E".repeat(17) + grown);
        more.parse("");
        due("2001 are too many", more.x.told(5), 0);
    }
}
