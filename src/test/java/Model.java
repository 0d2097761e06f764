import java.util.ArrayList;
import java.util.HashMap;
import java.util.HashSet;
import java.util.List;
import java.util.Map;
import java.util.Set;

/**
 * A second reading of the document, built otherwise than the class: tokens ahead of the grammar, closures for the
 * parts, a log of what was expected, whole trees, exceptions for what ends a parse.
 */
final class Model {
    private static final class Fault extends Exception {
        private static final long serialVersionUID = 1;
        final int place;
        Fault(int place) { super(null, null, false, false); this.place = place; }
    }

    private static final class Ended extends RuntimeException {
        private static final long serialVersionUID = 1;
        final int code;
        Ended(int code) { super(null, null, false, false); this.code = code; }
    }

    /** One sign, word, name, quoted byte or range; broken tells where the fault lies within it, or -1. */
    private record Token(char sort, int place, String word, int low, int high, int broken) { }

    private record Tree(char sort, int number, List<Tree> kids, long nodes) {
        static Tree leaf(int n) { return new Tree('L', n, List.of(), 1); }
        static Tree bough(List<Tree> kids) { return checked(new Tree('B', kids.size(), kids, 1 + sum(kids))); }
        static Tree fork(int code, Tree left, Tree right) {
            List<Tree> kids = List.of(left == null ? bough(List.of()) : left, right == null ? bough(List.of()) : right);
            return checked(new Tree('F', code, kids, 1 + sum(kids)));
        }
        private static long sum(List<Tree> kids) {
            long sum = 0;
            for (Tree kid : kids) sum += kid.nodes;
            return sum;
        }
        private static Tree checked(Tree tree) {
            if (tree.nodes > 2000) throw new Ended(-19);
            return tree;
        }
        int worth() {
            if (sort == 'L') return number;
            if (sort == 'B') {
                int sum = 0;
                for (Tree kid : kids) sum = 10 * sum + kid.worth();
                return sum;
            }
            int a = kids.get(0).worth(), b = kids.get(1).worth();
            switch (number) {
                case 43: return a + b;
                case 45: return a - b;
                case 42: return a * b;
                default: return 0;
            }
        }
        void text(StringBuilder to) {
            if (sort == 'L') {
                to.append(number);
            } else if (sort == 'B') {
                to.append('[');
                for (int k = 0; k < kids.size(); k++) {
                    if (k > 0) to.append(',');
                    kids.get(k).text(to);
                }
                to.append(']');
            } else {
                to.append('(');
                kids.get(0).text(to);
                to.append(number == 0 ? '?' : (char) number);
                kids.get(1).text(to);
                to.append(')');
            }
        }
        void list(int within, List<int[]> to) {
            to.add(new int[] {sort == 'L' ? 0 : sort == 'B' ? 1 : 2, number, within});
            for (Tree kid : kids) kid.list(within + 1, to);
        }
    }

    private record Answer(int place, Tree tree, boolean sharp) {
        boolean done() { return place >= 0; }
        static Answer fails(boolean sharp) { return new Answer(-1, null, sharp); }
        static Answer done(int place, Tree tree, boolean sharp) { return new Answer(place, tree, sharp); }
    }

    private interface Fn { Answer at(int place, int within); }

    /** A part, item, sequence or choice: how it parses, whether it may take nothing, where it may come to at once. */
    private abstract static class Piece {
        Fn fn;
        boolean justQuoted = false;
        abstract boolean nothing(Set<Integer> rules);
        abstract Set<Integer> heads(Set<Integer> nothingRules);
    }

    private static final class Fixed extends Piece {
        final boolean nothing;
        final List<Piece> inner;
        final boolean asInner;
        Fixed(boolean nothing) { this(nothing, false, List.of()); }
        Fixed(boolean nothing, boolean asInner, List<Piece> inner) {
            this.nothing = nothing;
            this.asInner = asInner;
            this.inner = inner;
        }
        boolean nothing(Set<Integer> rules) { return asInner ? inner.get(0).nothing(rules) : nothing; }
        Set<Integer> heads(Set<Integer> rules) {
            Set<Integer> all = new HashSet<>();
            for (Piece piece : inner) {
                all.addAll(piece.heads(rules));
                if (!piece.nothing(rules)) break;
            }
            return all;
        }
    }

    private static final class Laws {
        final Map<Integer, Piece> rules = new HashMap<>();
        final Map<Integer, Integer> atomsIn = new HashMap<>();
        final List<int[]> atoms = new ArrayList<>();
        final List<Integer> quoted = new ArrayList<>();
        Set<Integer> nothing = new HashSet<>();
        final Set<Integer> self = new HashSet<>();
    }

    private int[] tape = {}, held = {}, bytes = {};
    private Laws laws = new Laws();
    private int spent = 0;

    // The last parse that is told of.
    private boolean known = false;
    private int[] told = new int[6];
    private List<int[]> nodes = List.of();
    private String text = "";
    private int worth = 0;

    // The parse that goes on.
    private int steps, remembered;
    private List<int[]> expected;
    private Map<Integer, Answer> memory;
    private Set<Integer> running;

    // The grammar that is being read.
    private List<Token> tokens;
    private int next, open;
    private Laws young;
    private Map<Integer, Integer> uses;

    int feed(int n, int word) {
        if (n < 1 || n > 4) return -2;
        if (tape.length + n > 240) return -4;
        int[] longer = java.util.Arrays.copyOf(tape, tape.length + n);
        for (int k = 0; k < n; k++) longer[tape.length + k] = word >> 8 * k & 0xff;
        tape = longer;
        return tape.length;
    }

    // ---- reading

    private static List<Token> cut(int[] s) {
        List<Token> all = new ArrayList<>();
        int k = 0;
        while (k < s.length) {
            int c = s[k];
            if (c == ' ') {
                k++;
            } else if (c == '\'') {
                int broken = k + 1 >= s.length || s[k + 1] == '\'' ? k + 1 : k + 2 >= s.length || s[k + 2] != '\'' ? k + 2 : -1;
                all.add(new Token('q', k, "", k + 1 < s.length ? s[k + 1] : 0, k + 1 < s.length ? s[k + 1] : 0, broken));
                if (broken >= 0) return all;
                k += 3;
            } else if (c == '[') {
                int broken = k + 1 >= s.length ? k + 1 : k + 2 >= s.length || s[k + 2] < s[k + 1] ? k + 2
                    : k + 3 >= s.length || s[k + 3] != ']' ? k + 3 : -1;
                all.add(new Token('r', k, "", k + 1 < s.length ? s[k + 1] : 0, k + 2 < s.length ? s[k + 2] : 0, broken));
                if (broken >= 0) return all;
                k += 4;
            } else if (c >= 'a' && c <= 'z') {
                StringBuilder word = new StringBuilder();
                int from = k;
                while (k < s.length && s[k] >= 'a' && s[k] <= 'z') word.append((char) s[k++]);
                all.add(new Token('w', from, word.toString(), 0, 0, -1));
            } else if (c >= 'A' && c <= 'H') {
                all.add(new Token('n', k, "", c - 'A', 0, -1));
                k++;
            } else {
                all.add(new Token('s', k, "" + (char) c, 0, 0, -1));
                k++;
            }
        }
        all.add(new Token('e', s.length, "", 0, 0, -1));
        return all;
    }

    private Token peek() { return tokens.get(next); }

    private boolean isSign(char c) { return peek().sort == 's' && peek().word.charAt(0) == c; }

    private void must(char c) throws Fault {
        if (!isSign(c)) throw new Fault(peek().place);
        next++;
    }

    int grammar() {
        tokens = cut(tape);
        tape = new int[0];
        next = 0;
        open = 0;
        young = new Laws();
        uses = new HashMap<>();
        try {
            do {
                rule();
            } while (peek().sort != 'e');
            int first = Integer.MAX_VALUE;
            for (int rule : uses.keySet()) if (!young.rules.containsKey(rule)) first = Math.min(first, uses.get(rule));
            if (first != Integer.MAX_VALUE) throw new Fault(first);
        } catch (Fault fault) {
            return -100 - fault.place;
        }
        laws = young;
        analyse();
        known = false;
        return laws.rules.size();
    }

    private void analyse() {
        boolean grown = true;
        while (grown) {
            Set<Integer> more = new HashSet<>();
            for (int rule : laws.rules.keySet()) if (laws.rules.get(rule).nothing(laws.nothing)) more.add(rule);
            grown = !more.equals(laws.nothing);
            laws.nothing = more;
        }
        for (int rule : laws.rules.keySet()) {
            Set<Integer> seen = new HashSet<>();
            List<Integer> todo = new ArrayList<>(laws.rules.get(rule).heads(laws.nothing));
            while (!todo.isEmpty()) {
                int one = todo.remove(todo.size() - 1);
                if (seen.add(one)) todo.addAll(laws.rules.get(one).heads(laws.nothing));
            }
            if (seen.contains(rule)) laws.self.add(rule);
        }
    }

    private void rule() throws Fault {
        Token name = peek();
        if (name.sort != 'n' || young.rules.containsKey(name.low)) throw new Fault(name.place);
        next++;
        must('=');
        int ahead = young.atoms.size();
        Piece body = choice();
        must(';');
        young.rules.put(name.low, body);
        young.atomsIn.put(name.low, young.atoms.size() - ahead);
    }

    private Piece choice() throws Fault {
        List<Piece> all = new ArrayList<>();
        all.add(sequence());
        while (isSign('|')) {
            next++;
            all.add(sequence());
        }
        Piece made = new Piece() {
            boolean nothing(Set<Integer> rules) {
                boolean any = false;
                for (Piece piece : all) any |= piece.nothing(rules);
                return any;
            }
            Set<Integer> heads(Set<Integer> rules) {
                Set<Integer> heads = new HashSet<>();
                for (Piece piece : all) heads.addAll(piece.heads(rules));
                return heads;
            }
        };
        made.fn = (place, within) -> {
            for (Piece piece : all) {
                Answer answer = piece.fn.at(place, within);
                if (answer.done() || answer.sharp) return answer;
            }
            return Answer.fails(false);
        };
        return made;
    }

    private boolean partNext() {
        char sort = peek().sort;
        return sort == 'q' || sort == 'r' || sort == 'w' || sort == 'n' || isSign('(');
    }

    private Piece sequence() throws Fault {
        List<Piece> all = new ArrayList<>();
        do {
            all.add(item());
        } while (partNext());
        Piece made = new Piece() {
            boolean nothing(Set<Integer> rules) {
                boolean every = true;
                for (Piece piece : all) every &= piece.nothing(rules);
                return every;
            }
            Set<Integer> heads(Set<Integer> rules) {
                return new Fixed(false, false, all).heads(rules);
            }
        };
        made.fn = (place, within) -> {
            boolean sharp = false;
            List<Tree> kids = new ArrayList<>();
            Tree quoted = null;
            int at = place;
            for (Piece piece : all) {
                Answer answer = piece.fn.at(at, within);
                sharp |= answer.sharp;
                if (!answer.done()) return Answer.fails(sharp);
                at = answer.place;
                if (piece.justQuoted) {
                    if (quoted == null) quoted = answer.tree;
                } else if (answer.tree != null) {
                    kids.add(answer.tree);
                }
            }
            return Answer.done(at, kids.isEmpty() ? quoted : kids.size() == 1 ? kids.get(0) : Tree.bough(kids), sharp);
        };
        return made;
    }

    private Piece item() throws Fault {
        Piece part = part();
        if (isSign('?')) {
            next++;
            Piece made = new Fixed(true, false, List.of(part));
            made.fn = (place, within) -> {
                Answer answer = part.fn.at(place, within);
                return answer.done() || answer.sharp ? answer : Answer.done(place, Tree.bough(List.of()), false);
            };
            return made;
        }
        if (!isSign('*') && !isSign('+')) return part;
        boolean some = isSign('+');
        next++;
        Piece made = some ? new Fixed(false, true, List.of(part)) : new Fixed(true, false, List.of(part));
        made.fn = (place, within) -> {
            List<Tree> kids = new ArrayList<>();
            boolean sharp = false;
            int at = place;
            for (boolean first = true; ; first = false) {
                Answer answer = part.fn.at(at, within);
                if (!answer.done()) {
                    if (answer.sharp) return Answer.fails(true);
                    if (first && some) return Answer.fails(false);
                    return Answer.done(at, Tree.bough(kids), sharp);
                }
                if (answer.place == at) throw new Ended(-15);
                sharp |= answer.sharp;
                at = answer.place;
                if (answer.tree != null) kids.add(answer.tree);
            }
        };
        return made;
    }

    private int newAtom(int kind, Token token, int low, int high) throws Fault {
        if (young.atoms.size() == 32) throw new Fault(token.place);
        young.atoms.add(new int[] {token.place, kind, low, high});
        return young.atoms.size() - 1;
    }

    /** A part as a piece: the step is taken here, ahead of what it does. */
    private Piece stepping(Piece piece, Fn does) {
        piece.fn = (place, within) -> {
            step(within);
            return does.at(place, within + 1);
        };
        return piece;
    }

    private void step(int within) {
        if (steps == 1000 || spent == 40000) throw new Ended(-17);
        steps++;
        spent++;
        if (within == 60) throw new Ended(-18);
    }

    private Piece leaf(int atom, int low, int high, int less) {
        return stepping(new Fixed(false), (place, within) -> {
            if (place < bytes.length && bytes[place] >= low && bytes[place] <= high) {
                return Answer.done(place + 1, Tree.leaf(bytes[place] - less), false);
            }
            expected.add(new int[] {place, atom});
            return Answer.fails(false);
        });
    }

    private Piece part() throws Fault {
        Token token = peek();
        if (!partNext()) throw new Fault(token.place);
        next++;
        switch (token.sort) {
            case 'q': case 'r': {
                int atom = newAtom(token.sort == 'q' ? 0 : 1, token, token.low, token.high);
                if (token.broken >= 0) throw new Fault(token.broken);
                Piece made = leaf(atom, token.low, token.high, 0);
                made.justQuoted = token.sort == 'q';
                if (made.justQuoted) young.quoted.add(token.low);
                return made;
            }
            case 'n': {
                uses.putIfAbsent(token.low, token.place);
                return named(token.low);
            }
            case 's': {
                next--;
                Piece inner = bracketed();
                return stepping(new Fixed(false, true, List.of(inner)), inner.fn);
            }
            default: return word(token);
        }
    }

    private Piece bracketed() throws Fault {
        if (!isSign('(') || open == 8) throw new Fault(peek().place);
        next++;
        open++;
        Piece inner = choice();
        must(')');
        open--;
        return inner;
    }

    private Piece named(int rule) {
        Laws of = young;
        Piece made = new Piece() {
            boolean nothing(Set<Integer> rules) { return rules.contains(rule); }
            Set<Integer> heads(Set<Integer> rules) { return Set.of(rule); }
        };
        return stepping(made, (place, within) -> {
            int key = rule * 1000 + place;
            Answer old = memory.get(key);
            if (old != null) {
                remembered++;
                return old;
            }
            return run(of, rule, place, within);
        });
    }

    private Answer run(Laws of, int rule, int place, int within) {
        int key = rule * 1000 + place;
        if (!running.add(key)) throw new Ended(-16);
        Answer answer = of.rules.get(rule).fn.at(place, within);
        running.remove(key);
        memory.put(key, answer);
        return answer;
    }

    private Piece word(Token token) throws Fault {
        switch (token.word) {
            case "digit": return leaf(newAtom(2, token, -1, -1), '0', '9', '0');
            case "any": return leaf(newAtom(3, token, -1, -1), 0, 255, 0);
            case "end": {
                int atom = newAtom(4, token, -1, -1);
                return stepping(new Fixed(true), (place, within) -> {
                    if (place == bytes.length) return Answer.done(place, null, false);
                    expected.add(new int[] {place, atom});
                    return Answer.fails(false);
                });
            }
            case "cut": return stepping(new Fixed(true), (place, within) -> Answer.done(place, null, true));
            case "try": {
                Piece inner = bracketed();
                return stepping(new Fixed(false, true, List.of(inner)), (place, within) -> {
                    Answer answer = inner.fn.at(place, within);
                    return new Answer(answer.place, answer.tree, false);
                });
            }
            case "look": {
                Piece inner = bracketed();
                return stepping(new Fixed(true, false, List.of(inner)), (place, within) -> {
                    Answer answer = inner.fn.at(place, within);
                    return answer.done() ? Answer.done(place, answer.tree, false) : Answer.fails(false);
                });
            }
            case "not": return not(newAtom(5, token, -1, -1), bracketed());
            case "as": return as(newAtom(6, token, -1, -1), bracketed());
            case "chain": return chain();
            default: throw new Fault(token.place);
        }
    }

    private Piece not(int atom, Piece inner) {
        return stepping(new Fixed(true, false, List.of(inner)), (place, within) -> {
            List<int[]> ahead = expected;
            expected = new ArrayList<>();
            Answer answer;
            try {
                answer = inner.fn.at(place, within);
            } finally {
                expected = ahead;
            }
            if (!answer.done()) return Answer.done(place, null, false);
            expected.add(new int[] {place, atom});
            return Answer.fails(false);
        });
    }

    private Piece as(int atom, Piece inner) {
        return stepping(new Fixed(false, true, List.of(inner)), (place, within) -> {
            List<int[]> ahead = expected;
            List<int[]> inside = new ArrayList<>();
            expected = inside;
            Answer answer;
            try {
                answer = inner.fn.at(place, within);
            } finally {
                expected = ahead;
            }
            for (int[] one : inside) if (answer.done() || one[0] != place) expected.add(one);
            if (!answer.done()) expected.add(new int[] {place, atom});
            return answer;
        });
    }

    private Piece chain() throws Fault {
        if (!isSign('(') || open == 8) throw new Fault(peek().place);
        next++;
        open++;
        Piece one = choice();
        must(',');
        Piece two = choice();
        must(')');
        open--;
        Piece made = new Piece() {
            boolean nothing(Set<Integer> rules) { return one.nothing(rules); }
            Set<Integer> heads(Set<Integer> rules) { return new Fixed(false, false, List.of(one, two)).heads(rules); }
        };
        return stepping(made, (place, within) -> {
            Answer so = one.fn.at(place, within);
            if (!so.done()) return so;
            while (true) {
                Answer link = two.fn.at(so.place, within);
                if (!link.done()) return link.sharp ? Answer.fails(true) : so;
                Answer more = one.fn.at(link.place, within);
                if (!more.done()) return more.sharp || link.sharp ? Answer.fails(true) : so;
                if (more.place == so.place) throw new Ended(-15);
                int code = link.tree != null && link.tree.sort == 'L' ? link.tree.number : 0;
                so = Answer.done(more.place, Tree.fork(code, so.tree, more.tree), so.sharp || link.sharp || more.sharp);
            }
        });
    }

    // ---- the other calls

    int input() {
        held = tape;
        tape = new int[0];
        known = false;
        return held.length;
    }

    private Object whole(int rule, int place, int[] over) {
        bytes = over;
        steps = 0;
        remembered = 0;
        expected = new ArrayList<>();
        memory = new HashMap<>();
        running = new HashSet<>();
        try {
            return run(laws, rule, place, 0);
        } catch (Ended ended) {
            return ended.code;
        }
    }

    int parse(int rule, int place) {
        if (!laws.rules.containsKey(rule) || place < 0 || place > held.length) return -2;
        Object got = whole(rule, place, held);
        Answer answer = got instanceof Answer ? (Answer) got : null;
        Tree tree = answer == null ? null : answer.tree;
        int far = -1, wanted = 0;
        for (int[] one : expected) far = Math.max(far, one[0]);
        for (int[] one : expected) if (one[0] == far) wanted |= 1 << one[1];
        known = true;
        told = new int[] {far, wanted, steps, remembered, answer != null && answer.sharp ? 1 : 0, tree == null ? 0 : (int) tree.nodes};
        nodes = new ArrayList<>();
        StringBuilder to = new StringBuilder();
        if (tree != null) {
            tree.list(0, nodes);
            tree.text(to);
        }
        text = to.toString();
        worth = tree == null ? 0 : tree.worth();
        return answer == null ? (Integer) got : answer.done() ? answer.place : answer.sharp ? -6 : -5;
    }

    int told(int what) { return what < 0 || what > 5 ? -2 : known ? told[what] : -3; }

    int node(int k, int what) {
        if (what < 0 || what > 2) return -2;
        return !known ? -3 : k < 0 || k >= nodes.size() ? -1 : nodes.get(k)[what];
    }

    int worth() { return known ? worth : -3; }

    int text(int k) { return !known ? -3 : k < 0 || k >= text.length() ? -1 : text.charAt(k); }

    int rule(int rule, int what) {
        if (rule < 0 || rule > 7 || what < 0 || what > 3) return -2;
        boolean there = laws.rules.containsKey(rule);
        if (what == 0) return there ? 1 : 0;
        if (!there) return -1;
        return what == 1 ? laws.nothing.contains(rule) ? 1 : 0
            : what == 2 ? laws.self.contains(rule) ? 1 : 0 : laws.atomsIn.get(rule);
    }

    int atom(int atom, int what) {
        if (what < 0 || what > 3) return -2;
        return atom < 0 || atom >= laws.atoms.size() ? -1 : laws.atoms.get(atom)[what];
    }

    int drawn(int rule, int seed, int n, int m) {
        if (!laws.rules.containsKey(rule) || n < 1 || n > 20 || m < 1 || m > 20) return -2;
        List<Integer> from = new ArrayList<>(laws.quoted);
        if (from.isEmpty()) for (int k = 48; k <= 57; k++) from.add(k);
        int z = seed, done = 0;
        for (int k = 0; k < m; k++) {
            int[] over = new int[n];
            for (int b = 0; b < n; b++) {
                z = z * 1103515245 + 12345;
                over[b] = from.get((z >>> 9) % from.size());
            }
            Object got = whole(rule, 0, over);
            if (got instanceof Answer && ((Answer) got).place == n) done++;
        }
        return done;
    }

    int count(int what) {
        switch (what) {
            case 0: return laws.rules.size();
            case 1: return laws.atoms.size();
            case 2: return held.length;
            case 3: return tape.length;
            case 4: return spent;
            default: return -2;
        }
    }
}
