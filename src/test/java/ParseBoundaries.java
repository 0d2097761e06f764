import java.util.List;

/** Boundaries of promise 5: where a rule is done, how it fails, what ends a parse. */
final class ParseBoundaries {
    private static final int MIN = Integer.MIN_VALUE, MAX = Integer.MAX_VALUE;

    // B has 585 nodes, C 73, D 9, E 1.
    private static final String GROWN = ";B=CCCCCCCC;C=DDDDDDDD;D=EEEEEEEE;E='x'?;";

    private ParseBoundaries() {
    }

    static List<Sentence> sentences() {
        return List.of(
            new Sentence(5, "A RULE (0 .. 7: A .. H) is PARSED at a PLACE", ParseBoundaries::firstAndLastRule),
            new Sentence(5, "BAD: no such RULE, PLACE.", ParseBoundaries::badRuleOrPlace),
            new Sentence(5, "a PLACE of INPUT (0 .. its size; the size is its end)", ParseBoundaries::firstAndLastPlace),
            new Sentence(5, "if the byte there is that, from the first to the second, a digit, whatever one", ParseBoundaries::bytesThatFit),
            new Sentence(5, "end: at INPUT's end DONE there, nothing. Else they FAIL", ParseBoundaries::atTheEnd),
            new Sentence(5, "cut: DONE there, nothing, sharp.", ParseBoundaries::cut),
            new Sentence(5, "where it is DONE; -5 it FAILS, -6 sharp", ParseBoundaries::failsOrSharp),
            new Sentence(5, "it FAILS, sharp if that one or any ahead was sharp; else DONE where the last one was, sharp if any was",
                ParseBoundaries::sharpSequence),
            new Sentence(5, "till one is DONE, or FAILS sharp: that is its answer; it FAILS (not sharp) behind the last",
                ParseBoundaries::choice),
            new Sentence(5, "?: DONE as the PART; FAILS sharp as that; else DONE there", ParseBoundaries::perhaps),
            new Sentence(5, "till it FAILS: sharp: it FAILS so; else DONE where the last was (sharp if any was)", ParseBoundaries::many),
            new Sentence(5, "+: as *, but FAILS (sharp only if that one was) if the first FAILS.", ParseBoundaries::some),
            new Sentence(5, "A LOOP: one in a * or +", ParseBoundaries::loops),
            new Sentence(5, "(or the second and the first ALT of a chain, together) is DONE where it began", ParseBoundaries::loopsOfChains),
            new Sentence(5, "A LOOP ends also where a PART was sharp, and at the first of a +; a ? makes none.",
                ParseBoundaries::sharpLoops),
            new Sentence(5, "try: as the ALT, never sharp.", ParseBoundaries::tried),
            new Sentence(5, "not: DONE there, nothing, if the ALT FAILS; else it FAILS and EXPECTS itself; never sharp",
                ParseBoundaries::negated),
            new Sentence(5, "look: as the ALT, but DONE where it began; never sharp.", ParseBoundaries::looked),
            new Sentence(5, "An as that FAILS sharp is sharp.", ParseBoundaries::sharpAs),
            new Sentence(5, "chain: the first ALT (if that FAILS, as that)", ParseBoundaries::firstOfChain),
            new Sentence(5, "It is sharp if any was.", ParseBoundaries::sharpChains),
            new Sentence(5, "as either FAILS: sharp (or the second ahead of it was DONE sharp): chain FAILS sharp;"
                + " else it is DONE where the last first ALT was", ParseBoundaries::chains),
            new Sentence(5, "in one PARSE a NAME that was PARSED to an answer at a PLACE answers the same there anew", ParseBoundaries::anew),
            new Sentence(5, "What FAILS is in MEMORY, too, and is as sharp as it was.", ParseBoundaries::sharpMemory),
            new Sentence(5, "A RING: a NAME at a PLACE at which it is being run.", ParseBoundaries::rings),
            new Sentence(5, "a STEP behind 1000 of a PARSE", ParseBoundaries::stepsOfOne),
            new Sentence(5, "or behind 40000 of all (those of DRAWN, too; -17)", ParseBoundaries::stepsOfAll),
            new Sentence(5, "a PART within 60 others (-18; ( ) and NAMES count)", ParseBoundaries::deep),
            new Sentence(5, "a TREE of more than 2000 NODES (-19; as it is made)", ParseBoundaries::big),
            new Sentence(5, "end the whole PARSE so, at once", ParseBoundaries::atOnce),
            new Sentence(5, "of a PART: STEPS, then how deep, then MEMORY, then RING", ParseBoundaries::order));
    }

    private static void due(String what, long got, long want) {
        Bench.due(what, got, want);
    }

    /** What parsing the input by rule A of the grammar answers. */
    private static void due(String grammar, String input, int want) {
        due(grammar + " of " + input, Bench.of(grammar).parse(input), want);
    }

    private static void firstAndLastRule() {
        Bench bench = Bench.of("A='a';H='h';");
        bench.input("ah");
        due("the first", bench.x.parse(0, 0), 1);
        due("the last", bench.x.parse(7, 1), 2);
        due("not the other", bench.x.parse(7, 0), -5);
        due("nor this", bench.x.parse(0, 1), -5);
    }

    private static void badRuleOrPlace() {
        Bench bench = Bench.of("A=any;C=any any;H=any;");
        bench.input("xy");
        due("parse", bench.x.parse(2, 0), 2);
        int[][] bad = {{-1, 0}, {8, 0}, {1, 0}, {6, 0}, {MIN, 0}, {MAX, 0}, {0, -1}, {0, 3}, {0, 240}, {0, 241}, {0, MIN}, {0, MAX},
            {-1, -1}, {8, 3}, {MAX, MAX}, {MIN, MIN}};
        for (int[] one : bad) {
            due("parse " + one[0] + " " + one[1], bench.x.parse(one[0], one[1]), -2);
            due("the last parse stays", bench.x.told(5), 3);
            due("no step is taken", bench.x.count(4), 2);
        }
        due("no grammar", new Parsers().parse(0, 0), -2);
    }

    private static void firstAndLastPlace() {
        Bench bench = Bench.of("A=any;B=end;C=any*end;");
        bench.input("abc");
        for (int place = 0; place <= 3; place++) {
            due("any at " + place, bench.x.parse(0, place), place < 3 ? place + 1 : -5);
            due("end at " + place, bench.x.parse(1, place), place < 3 ? -5 : 3);
            due("to the end from " + place, bench.x.parse(2, place), 3);
        }
        due("behind the end", bench.x.parse(1, 4), -2);
        due("ahead of the first", bench.x.parse(0, -1), -2);
        bench.input("a".repeat(240));
        due("the last of 240", bench.x.parse(0, 239), 240);
        due("the end of 240", bench.x.parse(1, 240), 240);
        due("all 240", bench.x.parse(2, 0), 240);
        bench.x.input();
        due("the end of none", bench.x.parse(1, 0), 0);
        due("any of none", bench.x.parse(0, 0), -5);
    }

    private static void bytesThatFit() {
        String grammar = "A='m';B=[bm];C=digit;D=any;E=[" + (char) 127 + (char) 200 + "];F=[mm];G='" + (char) 0 + "';H='" + (char) 255 + "';";
        for (int sign = 0; sign < 256; sign++) {
            Bench bench = Bench.of(grammar);
            bench.input("" + (char) sign);
            boolean[] fits = {sign == 'm', sign >= 'b' && sign <= 'm', sign >= '0' && sign <= '9', true, sign >= 127 && sign <= 200,
                sign == 'm', sign == 0, sign == 255};
            for (int rule = 0; rule < 8; rule++) {
                due("rule " + rule + " of byte " + sign, bench.x.parse(rule, 0), fits[rule] ? 1 : -5);
            }
        }
        Bench none = Bench.of(grammar);
        for (int rule = 0; rule < 8; rule++) {
            due("rule " + rule + " at the end", none.x.parse(rule, 0), -5);
        }
    }

    private static void atTheEnd() {
        due("A=end;", "", 0);
        due("A=end;", "a", -5);
        due("A=any end;", "a", 1);
        due("A=any end;", "ab", -5);
        due("A=end end end;", "", 0);
        due("A=any;", "", -5);
        due("A='a''b';", "a", -5);
        due("A=[" + (char) 0 + (char) 255 + "];", "", -5);
        due("A=digit;", "", -5);
        Bench bench = Bench.of("A=end;");
        bench.parse("");
        due("no tree", bench.x.told(5), 0);
    }

    private static void cut() {
        Bench bench = Bench.of("A=cut;");
        bench.input("ab");
        for (int place = 0; place <= 2; place++) {
            due("at " + place, bench.x.parse(0, place), place);
            Bench.due("told at " + place, bench.told(), "-1 0 1 0 1 0");
        }
        bench.x.input();
        due("of none", bench.x.parse(0, 0), 0);
        due("A=cut cut;", "", 0);
        due("A='a'cut;", "b", -5);
    }

    private static void failsOrSharp() {
        due("A='a';", "a", 1);
        due("A='a';", "b", -5);
        due("A=cut'a';", "a", 1);
        due("A=cut'a';", "b", -6);
        due("A='a'cut;", "b", -5);
        due("A=cut;", "", 0);
    }

    private static void sharpSequence() {
        due("A='a''b'cut;", "ac", -5);
        due("A='a'cut'b';", "ac", -6);
        due("A=cut'a''b''c''d';", "abcx", -6);
        due("A=any(cut'b')any|any;", "ac", -6);
        due("A=(cut|any)'b'any any|any;", "bb", -6);
        Bench bench = Bench.of("A=any cut any;B=cut any;C=any cut;D=any any;");
        bench.input("xy");
        int[] sharp = {1, 1, 1, 0};
        for (int rule = 0; rule < 4; rule++) {
            bench.x.parse(rule, 0);
            due("sharp as it is done, rule " + rule, bench.x.told(4), sharp[rule]);
        }
    }

    private static void choice() {
        due("A='a'|'b'|'c';", "c", 1);
        due("A='a'|'b'|'c';", "d", -5);
        due("A='a'|'a''b';", "ab", 1);
        due("A='a''b'|'a';", "ac", 1);
        due("A='a'cut'b'|'a';", "ac", -6);
        due("A='a''b'cut|'a';", "ac", 1);
        due("A='x'|'a'cut'b'|'a';", "ac", -6);
        due("A='x'cut|'y'cut|'a';", "a", 1);
        due("A='x'cut|'y'cut;", "a", -5);
        due("A=('a'cut'b'|'a')|'a';", "ac", -6);
        due("A=(try('a'cut'b')|'a')'c';", "ac", 2);
    }

    private static void perhaps() {
        due("A='a'?;", "a", 1);
        due("A='a'?;", "b", 0);
        due("A='a'?;", "", 0);
        due("A='a'?'a';", "a", -5);
        due("A=('a'cut'b')?;", "ac", -6);
        due("A=('a'cut'b')?;", "c", 0);
        due("A=('a'cut)?'b'|any;", "ac", -6);
        due("A=('a'cut)?'b'|any;", "c", 1);
        Bench bench = Bench.of("A='a'?;C=cut?;");
        Bench.due("none", bench.made("b"), "0 []");
        Bench.due("one", bench.made("a"), "1 97");
        due("nothing", bench.x.parse(2, 0), 0);
        due("nothing", bench.x.told(5), 0);
        due("sharp", bench.x.told(4), 1);
    }

    private static void many() {
        due("A='a'*;", "", 0);
        due("A='a'*;", "b", 0);
        due("A='a'*;", "ab", 1);
        due("A='a'*;", "a".repeat(240), 240);
        due("A='a'*'a';", "aaa", -5);
        due("A=('a''b')*;", "ababac", 4);
        due("A=('a'cut'b')*;", "ababac", -6);
        due("A=('a'cut'b')*;", "abab", 4);
        due("A=('a'cut'b')*|any;", "ac", -6);
        due("A=('a'cut|'b')*'c'|any;", "abx", -6);
        due("A=('a'|'b'cut)*'c'|any;", "abx", -6);
        due("A=('a'|'b'cut)*'c'|any;", "aax", 1);
        due("A=('a'cut)*'c'|any;", "x", 1);
    }

    private static void some() {
        due("A='a'+;", "", -5);
        due("A='a'+;", "b", -5);
        due("A='a'+;", "a", 1);
        due("A='a'+;", "a".repeat(240), 240);
        due("A=('a'cut'b')+|any;", "ac", -6);
        due("A=('a'cut'b')+|any;", "c", 1);
        due("A=('a''b')+;", "abac", 2);
        due("A=('a'cut'b')+|any;", "abac", -6);
        due("A=('a'cut)+'b'|any;", "ac", -6);
        due("A=('a'|'b'cut)+'c'|any;", "aax", 1);
        due("A=cut'a'+;", "b", -6);
    }

    private static void loops() {
        for (String sign : new String[] {"*", "+"}) {
            due("A=look(any)" + sign + ";", "a", -15);
            due("A=end" + sign + ";", "", -15);
            due("A=not(any)" + sign + ";", "", -15);
            due("A=('a'?)" + sign + ";", "", -15);
            due("A=('a'?)" + sign + ";", "aa", -15);
            due("A=('a'*)" + sign + ";", "a", -15);
            due("A=(any|end)" + sign + ";", "ab", -15);
            due("A=B" + sign + ";B='a'?;", "ab", -15);
            due("A=('a'+)" + sign + ";", "aa", 2);
            due("A=(look(any)any)" + sign + ";", "aa", 2);
            due("A=(any end?)" + sign + ";", "aa", 2);
        }
        due("A=end*;", "a", 0);
        due("A=end+;", "a", -5);
    }

    private static void loopsOfChains() {
        due("A=chain('a'?,look(any)|end);", "", -15);
        due("A=chain('a'?,look(any));", "ab", -15);
        due("A=chain('a'?,look(any));", "a", 1);
        due("A=chain('a',look(any));", "aaa", 3);
        due("A=chain('a'?,'b');", "bbab", 4);
        due("A=chain(end?,any);", "ab", 2);
        due("A=chain(end,not('a'));", "", -15);
        due("A=chain('a',end);", "aa", 1);
        due("A=chain('a'|end,look(end)|'b');", "aba", -15);
    }

    private static void sharpLoops() {
        due("A=cut*;", "a", -15);
        due("A=cut+;", "a", -15);
        due("A=('a'?cut)*;", "ab", -15);
        due("A=('a'cut|cut)+;", "a", -15);
        due("A=chain(cut,cut);", "a", -15);
        due("A=chain(cut'a'?,cut);", "a", -15);
        due("A=end+;", "", -15);
        due("A=('a'?)+;", "b", -15);
        due("A=cut?;", "a", 0);
        due("A=end?end?;", "", 0);
        due("A=('a'?)?('a'*)?;", "b", 0);
        Bench first = Bench.of("A=cut+;");
        first.parse("");
        due("at the first, not at the second", first.x.told(2), 1);
    }

    private static void tried() {
        due("A=try('a''b')'c'|any;", "abc", 3);
        due("A=try('a''b');", "ac", -5);
        due("A=try('a'cut'b');", "ac", -5);
        due("A=try('a'cut'b')|any;", "ac", 1);
        due("A=try('a'cut)'b'|any;", "ac", 1);
        due("A=cut try('a');", "b", -6);
        due("A=(try('a'cut'b'))*'a';", "abac", 3);
        Bench bench = Bench.of("A=try(any cut);");
        bench.parse("a");
        due("done, not sharp", bench.x.told(4), 0);
    }

    private static void negated() {
        due("A=not('a');", "a", -5);
        due("A=not('a');", "b", 0);
        due("A=not('a');", "", 0);
        due("A=not('a'cut'b')any;", "ac", 1);
        due("A=not('a'cut)|any;", "ac", 1);
        due("A=not(cut);", "", -5);
        due("A=not(not('a'))any;", "a", 1);
        due("A=not(not('a'))any;", "b", -5);
        Bench bench = Bench.of("A=not('a'cut'b');B=not(any any)any;");
        due("done", bench.parse("ac"), 0);
        due("not sharp", bench.x.told(4), 0);
        due("nothing", bench.x.told(5), 0);
        due("at the last", bench.x.parse(1, 1), 2);
        due("at the one ahead", bench.x.parse(1, 0), -5);
    }

    private static void looked() {
        due("A=look('a''b');", "ab", 0);
        due("A=look('a''b');", "ac", -5);
        due("A=look('a'cut'b')|any;", "ac", 1);
        due("A=look('a'cut)'b'|any;", "ac", 1);
        due("A=look(end);", "", 0);
        due("A=look(cut);", "a", 0);
        due("A=any*look(end);", "ab", 2);
        Bench bench = Bench.of("A=look(cut any);");
        bench.parse("a");
        due("done, not sharp", bench.x.told(4), 0);
    }

    private static void sharpAs() {
        due("A=as('a'cut'b')|any;", "ac", -6);
        due("A=as('a''b')|any;", "ac", 1);
        due("A=as('a'cut)'b'|any;", "ac", -6);
        due("A=as('a')'b'|any;", "ac", 1);
        due("A=try(as('a'cut'b'))|any;", "ac", 1);
    }

    private static void firstOfChain() {
        due("A=chain('a',',');", "b", -5);
        due("A=chain('a',',');", "", -5);
        due("A=chain('a',',');", ",", -5);
        due("A=chain('a',cut)|any;", "b", 1);
        due("A=chain('a'cut'b',',')|any;", "ac", -6);
        due("A=chain('a'cut'b',',')|any;", "c", 1);
        due("A=chain(try('a'cut'b'),',')|any;", "ac", 1);
    }

    private static void chains() {
        due("A=chain('a',',');", "a", 1);
        due("A=chain('a',',');", "a,a,a", 5);
        due("A=chain('a',',');", "a,a,", 3);
        due("A=chain('a',',');", "a,a,b", 3);
        due("A=chain('a',',')',';", "a,", 2);
        due("A=chain('a',','cut);", "a,", -6);
        due("A=chain('a',','cut);", "a,b", -6);
        due("A=chain('a',','cut);", "a,a", 3);
        due("A=chain('a',','cut'-');", "a,a", -6);
        due("A=chain('a'|'b'cut'c',',');", "a,a,bd", -6);
        due("A=chain('a'cut,',');", "a,b", 1);
    }

    private static void sharpChains() {
        due("A=chain('a'cut,',')'x'|any;", "a", -6);
        due("A=chain('a'cut,',')'x'|any;", "a,b", -6);
        due("A=chain('a',','cut)'x'|any;", "a", 1);
        due("A=chain('a',','|';'cut)'x'|any;", "a,a", 1);
        due("A=chain('a',','|';'cut)'x'|any;", "a;a", -6);
        due("A=chain('a',','|';'cut)'x'|any;", "a;a,b", -6);
        due("A=chain('a',','|';'cut);", "a;a,b", 3);
        due("A=chain('a'|'b'cut,',')'x'|any;", "a,b", -6);
        Bench bench = Bench.of("A=chain('a'|'b'cut,','|';'cut);");
        String[] inputs = {"a", "b", "a,a", "a;a", "a,b", "b,a", "a,", "a,a,c"};
        int[] sharp = {0, 1, 0, 1, 1, 1, 0, 0};
        for (int k = 0; k < inputs.length; k++) {
            bench.parse(inputs[k]);
            due("sharp as " + inputs[k] + " is done", bench.x.told(4), sharp[k]);
        }
    }

    private static void anew() {
        Bench bench = Bench.of("A=look(B)B|any;B=any any C?;C='x'B;");
        due("done where it was", bench.parse("abxcd"), 5);
        Bench.due("told", bench.told(), "5 8 12 1 0 15");
        Bench.due("with its tree", bench.text(), "[[97,98,[99,100,[]]],[97,98,[99,100,[]]]]");
        due("A=look(B)any B;B=any;", "ab", 2);
        due("A=look(any B)any B;B='b'|'c';", "ac", 2);
        due("A=look(any B)B any;B='b'|'c';", "bc", 2);
        due("A=B end|B any;B='a'|'a''b';", "ab", 2);
    }

    private static void sharpMemory() {
        due("A=try(B)|B|any;B='a'cut'b';", "ac", -6);
        due("A=try(B)|B|any;B='a''b';", "ac", 1);
        due("A=look(B)B'x'|any;B='a'cut;", "ab", -6);
        due("A=look(B)B'x'|any;B='a';", "ab", 1);
        due("A=not(B)B|any;B='a'cut'b';", "ac", -6);
        Bench bench = Bench.of("A=try(B)|B|any;B='a'cut'b';");
        bench.parse("ac");
        due("it isn't run", bench.x.told(2), 6);
        due("memory answered", bench.x.told(3), 1);
    }

    private static void rings() {
        due("A=A;", "a", -16);
        due("A=A|any;", "a", -16);
        due("A=any|A;", "a", 1);
        due("A='a'?A;", "b", -16);
        due("A='a'A|A;", "ab", -16);
        due("A='a'A|end;", "aaa", 3);
        due("A=B;B=C;C=A;", "a", -16);
        due("A=try(A);", "a", -16);
        due("A=any B;B=B;", "a", -16);
        due("A=any*B;B=cut C;C=B;", "a".repeat(240), -16);
        due("A=cut not(A);", "a", -16);
        due("A=chain(A,any);", "a", -16);
        due("A=chain(any,A);", "a", 1);
        due("A=chain(cut,A);", "a", -16);
        due("A=B B B;B=cut;", "", 0);
        due("A=look(B)any B;B=any;", "ab", 2);
        due("A=B*;B=any C?;C='x'B;", "axaxa", 5);
        // Rule A at the last places is another than rule B at the first ones.
        Bench bench = Bench.of("A=any?;B='a'*A;C='a'*B;");
        for (String input : new String[] {"a".repeat(240), "a".repeat(239) + "x", "a".repeat(238) + "x"}) {
            bench.input(input);
            due("B of " + input, bench.x.parse(1, 0), input.length());
            due("C of " + input, bench.x.parse(2, 0), input.length());
        }
    }

    /** k STEPS more than 1000 for 199 bytes b; five for each byte, five till the last round fails. */
    private static String stepsBehind1000(int k) {
        return "A=" + "'x'?".repeat(k) + "('a'?'a'?'a'?'b')*;";
    }

    private static void stepsOfOne() {
        String input = "b".repeat(199);
        Bench bench = Bench.of(stepsBehind1000(0));
        for (int time = 0; time < 3; time++) {
            due("1000 steps", bench.parse(input), 199);
            due("told", bench.x.told(2), 1000);
        }
        due("1001 steps", Bench.of(stepsBehind1000(1)).parse(input), -17);
        due("1005 steps", bench.parse(input + "b"), -17);
        due("995 steps", bench.parse("b".repeat(198)), 198);
        // 995 steps, four or five more, then this.
        for (String last : new String[] {"cut", "end", "any?", "digit?", "[az]*", "'x'?"}) {
            String grammar = "A=('a'?'a'?'a'?'b')*" + "'x'?".repeat(4);
            due(last + " is the 1000th", Bench.of(grammar + last + ";").parse("b".repeat(198)), 198);
            due(last + " is the 1001st", Bench.of(grammar + "'x'?" + last + ";").parse("b".repeat(198)), -17);
        }
    }

    private static void stepsOfAll() {
        Bench bench = Bench.of(stepsBehind1000(0) + "B=end;");
        bench.input("b".repeat(199));
        for (int k = 1; k <= 40; k++) {
            due("parse " + k, bench.x.parse(0, 0), 199);
        }
        due("all 40000", bench.x.count(4), 40000);
        due("none is left", bench.x.parse(1, 199), -17);
        due("none is told", bench.x.told(2), 0);
        due("all 40000", bench.x.count(4), 40000);
        bench.grammar("A=end;");
        bench.x.input();
        due("nor with another grammar and input", bench.x.parse(0, 0), -17);
        due("a new object has its own", Bench.of("A=end;").parse(""), 0);

        Bench drawn = Bench.of("A=any*;");
        for (int k = 0; k < 95; k++) {
            drawn.x.drawn(0, k, 20, 20);
        }
        due("99 bytes take the 100 that drawn left", drawn.parse("a".repeat(99)), 99);
        due("none is left", drawn.x.parse(0, 99), -17);
        Bench other = Bench.of("A=any*;");
        for (int k = 0; k < 95; k++) {
            other.x.drawn(0, k, 20, 20);
        }
        due("100 bytes take one more", other.parse("a".repeat(100)), -17);
        due("as many as it had", other.x.told(2), 100);
    }

    private static void deep() {
        // Rule C puts one PART more round all.
        for (String word : new String[] {"", "try", "look", "as", "not", "chain"}) {
            String rest = word.equals("chain") ? "A,any" : "A";
            Bench bench = Bench.of("A='a'" + word + "(" + rest + ")|'b';C=A;");
            bench.input("a".repeat(29) + "b");
            due(word + "( ) and names, 58", bench.x.parse(0, 0) == -18 ? -18 : 0, 0);
            due(word + "( ) and names, 59", bench.x.parse(2, 0) == -18 ? -18 : 0, 0);
            bench.input("a".repeat(30) + "b");
            due(word + "( ) and names, 60", bench.x.parse(0, 0), -18);
            due(word + "( ) and names, 61", bench.x.parse(2, 0), -18);
        }
        due("A='a'A|'b';", "a".repeat(59) + "b", 60);
        due("A='a'A|'b';", "a".repeat(60) + "b", -18);
        due("A='a'A|'b';", "a".repeat(239), -18);
        for (String sign : new String[] {"?", "*"}) {
            due("A='a'A" + sign + ";", "a".repeat(59), 59);
            due("A='a'A" + sign + ";", "a".repeat(60), -18);
        }
        due("A=((any))*;", "a".repeat(240), 240);
        Bench bench = Bench.of("A='a'A|'b';");
        bench.parse("a".repeat(60) + "b");
        due("the PART that is too deep is a STEP", bench.x.told(2), 121);
    }

    private static void tree(String grammar, String input, int nodes) {
        Bench bench = Bench.of(grammar);
        int at = bench.parse(input);
        due(nodes + " nodes of " + grammar + " of " + input, at < 0 ? at : bench.x.told(5), nodes > 2000 ? -19 : nodes);
    }

    private static void big() {
        tree("A=BBBCCC D" + " E".repeat(15) + GROWN, "", 1999);
        tree("A=BBBCCC D" + " E".repeat(16) + GROWN, "", 2000);
        tree("A=BBBCCC D" + " E".repeat(17) + GROWN, "", 2001);
        for (String sign : new String[] {"*", "+"}) {
            String grammar = "A=('b'B|'c'C|digit)" + sign + GROWN;
            tree(grammar, "bbbccc" + "1".repeat(24), 1999);
            tree(grammar, "bbbccc" + "1".repeat(25), 2000);
            tree(grammar, "bbbccc" + "1".repeat(26), 2001);
        }
        String chain = "A=chain('b'B|'c'C|'e'digit digit digit|digit,'-')" + GROWN;
        tree(chain, "b-b-b-c-c-c" + "-1".repeat(10), 1999);
        tree(chain, "b-b-b-c-c-c-e123" + "-1".repeat(8), 2000);
        tree(chain, "b-b-b-c-c-c" + "-1".repeat(11), 2001);
        tree(chain, "b-b-b-c-c-c" + "-1".repeat(50), 2079);
        tree(chain, "b-b-b-c-c-c-e123" + "-1".repeat(9), 2002);
        // As it is made: what comes behind it isn't looked at, what is never made isn't big.
        due("A=(BBBB)'x'|any" + GROWN, "y", -19);
        due("A=BBBB'x'|any" + GROWN, "y", 1);
        due("A=(any cut B'a')*" + GROWN, "aaaaaaaab", -6);
        due("A=look(BBBB)" + GROWN, "", -19);
        due("A=not(BBBB)" + GROWN, "", -19);
        Bench bench = Bench.of("A=not(BBBB)" + GROWN);
        bench.parse("");
        due("no tree is left", bench.x.told(5), 0);
    }

    private static void atOnce() {
        String[] around = {"X", "not(X)|any", "try(X)|any", "look(X)|any", "as(X)|any", "(X)?any", "(X|any)*", "('x'|X)+|any",
            "chain(X,any)|any", "chain(any?,X)|any", "'x'|X|any", "any?X|any", "cut X", "not(as(not(X)))|any"};
        String input = "z".repeat(230);
        for (String one : around) {
            due("A=" + one.replace("X", "cut*") + ";", input, -15);
            due("A=" + one.replace("X", "B") + ";B=B;", input, -16);
            due("A=" + one.replace("X", "B") + ";B=('y'?'y'?'y'?'y'?any)*;", input, -17);
            due("A=" + one.replace("X", "B") + ";B=((((any B))));", input, -18);
            due("A=" + one.replace("X", "(BBBB)") + GROWN, input, -19);
        }
        Bench bench = Bench.of("A='x'?(cut*)any any any;");
        due("a loop", bench.parse("abc"), -15);
        due("nothing is parsed behind it", bench.x.told(2), 3);
        Bench ring = Bench.of("A='x'|A|any;");
        due("a ring", ring.parse("abc"), -16);
        due("nothing is parsed behind it", ring.x.told(2), 2);
    }

    private static void order() {
        // STEPS ahead of how deep: the 1000th PART, the 1001st.
        String late = "('y'?'y'?'y'?'y'?'x')*B;B='a'B|'b';";
        String input = "x".repeat(145) + "a".repeat(60);
        due("how deep at the 1000th", Bench.of("A='y'?'y'?'y'?'y'?" + late).parse(input), -18);
        due("STEPS at the 1001st", Bench.of("A='y'?'y'?'y'?'y'?'y'?" + late).parse(input), -17);
        // STEPS ahead of MEMORY.
        String known = "('y'?'y'?'y'?'x')*look(B)B;B='q'?;";
        Bench bench = Bench.of("A='y'?" + known);
        due("MEMORY at the 1000th", bench.parse("x".repeat(198)), 198);
        due("it answered", bench.x.told(2) * 10 + bench.x.told(3), 10001);
        bench = Bench.of("A='y'?'y'?" + known);
        due("STEPS at the 1001st", bench.parse("x".repeat(198)), -17);
        due("it didn't answer", bench.x.told(2) * 10 + bench.x.told(3), 10000);
        // STEPS ahead of RING.
        String ring = "('y'?'y'?'y'?'x')*B;B=B;";
        due("RING at the 1000th", Bench.of("A='y'?'y'?'y'?" + ring).parse("x".repeat(198)), -16);
        due("STEPS at the 1001st", Bench.of("A='y'?'y'?'y'?'y'?" + ring).parse("x".repeat(198)), -17);
        // How deep ahead of MEMORY, and of RING.
        String rest = "C='a'C|'c'((B));B='b';";
        due("A=look('a'*'c'B)C;" + rest, "a".repeat(56) + "cb", 58);
        due("A=look('a'*'c'B)C;" + rest, "a".repeat(57) + "cb", -18);
        due("A='a'A|'c'B;B=((B));", "a".repeat(56) + "c", -16);
        due("A='a'A|'c'B;B=((B));", "a".repeat(57) + "c", -18);
    }
}
