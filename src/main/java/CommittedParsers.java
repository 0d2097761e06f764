import java.util.Arrays;

/** Grammars that become parsers, after the document's thirteen promises. */
public final class CommittedParsers {
    public static final int NONE = -1, BAD = -2, STATE = -3, FULL = -4;
    public static final int LOOP = -15, RING = -16, STEPS = -17, DEEP = -18, BIG = -19;

    private static final int FAILS = -5, FAILS_SHARP = -6, FAULTS = -100;

    // The document's limits.
    private static final int TAPE_ROOM = 240, RULES = 8, ATOMS = 32, BRACKETS = 8;
    private static final int PARSE_STEPS = 1000, ALL_STEPS = 40000, WITHIN = 60, NODES = 2000;
    private static final int DRAWN_BYTES = 20, DRAWN_INPUTS = 20;

    // What a PART is; the first seven are the document's numbers for ATOMS.
    private static final int QUOTED = 0, RANGE = 1, DIGIT = 2, ANY = 3, END = 4, NOT = 5, AS = 6;
    private static final int CUT = 7, TRY = 8, LOOK = 9, CHAIN = 10, BRACKET = 11, NAME = 12;

    // How often an ITEM wants its PART: the sign behind it, or none.
    private static final int ONCE = 0, MAYBE = '?', MANY = '*', SOME = '+';

    // What a NODE is.
    private static final int LEAF = 0, BOUGH = 1, FORK = 2;

    private static final int PLACES = TAPE_ROOM + 1, BYTES = 256;

    private Row tape = new Row(TAPE_ROOM);
    private Row bytes = new Row(TAPE_ROOM);
    private final Row draft = new Row(DRAWN_BYTES);
    private final Run run = new Run();
    private final Last last = new Last();
    private Grammar current = new Grammar();

    public CommittedParsers() {
    }

    public int feed(int n, int word) {
        if (n < 1 || n > 4) {
            return BAD;
        }
        if (tape.size() + n > TAPE_ROOM) {
            return FULL;
        }
        for (int k = 0; k < n; k++) {
            tape.add((word >>> (8 * k)) & 255);
        }
        return tape.size();
    }

    public int grammar() {
        Reader reader = new Reader(tape);
        Grammar read = reader.read();
        tape.shrink(0);
        if (reader.fault != NONE) {
            return FAULTS - reader.fault;
        }
        current = read;
        last.forget();
        return current.rules;
    }

    public int input() {
        Row free = bytes;
        bytes = tape;
        tape = free;
        tape.shrink(0);
        last.forget();
        return bytes.size();
    }

    public int parse(int rule, int place) {
        if (!current.has(rule) || place < 0 || place > bytes.size()) {
            return BAD;
        }
        int at = run.through(current, bytes, rule, place);
        last.keep(run);
        return at == FAILS && run.sharp ? FAILS_SHARP : at;
    }

    public int told(int what) {
        if (what < 0 || what > 5) {
            return BAD;
        }
        if (!last.known) {
            return STATE;
        }
        switch (what) {
            case 0: return last.far;
            case 1: return last.wanted;
            case 2: return last.steps;
            case 3: return last.remembered;
            case 4: return last.sharp ? 1 : 0;
            default: return last.nodes();
        }
    }

    public int node(int k, int what) {
        if (what < 0 || what > 2) {
            return BAD;
        }
        return last.known ? last.about(k, what) : STATE;
    }

    public int worth() {
        return last.known ? last.value : STATE;
    }

    public int text(int k) {
        return last.known ? last.sign(k) : STATE;
    }

    public int rule(int rule, int what) {
        if (rule < 0 || rule >= RULES || what < 0 || what > 3) {
            return BAD;
        }
        boolean there = current.has(rule);
        if (what == 0) {
            return there ? 1 : 0;
        }
        if (!there) {
            return NONE;
        }
        if (what == 3) {
            return current.atomsWithin(rule);
        }
        return (what == 1 ? current.nothing : current.self) >>> rule & 1;
    }

    public int atom(int atom, int what) {
        if (what < 0 || what > 3) {
            return BAD;
        }
        Atom found = current.atomAt(atom);
        if (found == null) {
            return NONE;
        }
        switch (what) {
            case 0: return found.place;
            case 1: return found.kind;
            case 2: return found.low;
            default: return found.high;
        }
    }

    public int drawn(int rule, int seed, int n, int m) {
        if (!current.has(rule) || n < 1 || n > DRAWN_BYTES || m < 1 || m > DRAWN_INPUTS) {
            return BAD;
        }
        int z = seed;
        int done = 0;
        for (int k = 0; k < m; k++) {
            draft.shrink(0);
            for (int b = 0; b < n; b++) {
                z = z * 1103515245 + 12345;
                draft.add(current.drawnByte(z >>> 9));
            }
            if (run.through(current, draft, rule, 0) == n) {
                done++;
            }
        }
        return done;
    }

    public int count(int what) {
        switch (what) {
            case 0: return current.rules;
            case 1: return current.atoms;
            case 2: return bytes.size();
            case 3: return tape.size();
            case 4: return run.spent;
            default: return BAD;
        }
    }

    /** Numbers by place; every index is looked at here, so that none is used untested. */
    private static final class Row {
        private final int[] cells;
        private int used = 0;

        Row(int room) {
            cells = new int[room < 0 ? 0 : room];
        }

        int size() {
            return used;
        }

        int at(int k) {
            return k >= 0 && k < used && k < cells.length ? cells[k] : NONE;
        }

        void put(int k, int number) {
            if (k >= 0 && k < used && k < cells.length) {
                cells[k] = number;
            }
        }

        void add(int number) {
            if (used >= 0 && used < cells.length) {
                cells[used] = number;
                used++;
            }
        }

        void shrink(int size) {
            if (size >= 0 && size < used) {
                used = size;
            }
        }

        /** Makes it as long as size, with number everywhere. */
        void fill(int size, int number) {
            if (size >= 0 && size <= cells.length) {
                used = size;
                Arrays.fill(cells, 0, size, number);
            }
        }
    }

    /** What can be EXPECTED. */
    private static final class Atom {
        final int kind;
        final int place;
        final int number;
        int low = NONE;
        int high = NONE;

        Atom(int kind, int place, int number) {
            this.kind = kind;
            this.place = place;
            this.number = number;
        }

        int bit() {
            return 1 << number;
        }
    }

    /** A PART and the sign behind it: an ITEM. */
    private static final class Part {
        final int kind;
        int times = ONCE;
        Atom atom = null;
        int named = NONE;
        Seq body = null;
        Seq second = null;
        Part next = null;

        Part(int kind) {
            this.kind = kind;
        }

        boolean justQuoted() {
            return kind == QUOTED && times == ONCE;
        }
    }

    /** ITEMS one behind the other; an ALT is the first of its SEQS. */
    private static final class Seq {
        Part head = null;
        Seq next = null;
    }

    /** RULES and ATOMS as they were read. */
    private static final class Grammar {
        private final Seq[] bodies = new Seq[RULES];
        private final Row atomsIn = new Row(RULES);
        private final Atom[] found = new Atom[ATOMS];
        private final Row quoted = new Row(ATOMS);
        int rules = 0;
        int atoms = 0;
        int nothing = 0;
        int self = 0;

        Grammar() {
            atomsIn.fill(RULES, 0);
        }

        Seq body(int rule) {
            return rule >= 0 && rule < RULES && rule < bodies.length ? bodies[rule] : null;
        }

        boolean has(int rule) {
            return body(rule) != null;
        }

        void addRule(int rule, Seq body, int atomsOfIt) {
            if (rule >= 0 && rule < bodies.length) {
                bodies[rule] = body;
                atomsIn.put(rule, atomsOfIt);
                rules++;
            }
        }

        int atomsWithin(int rule) {
            return atomsIn.at(rule);
        }

        Atom atomAt(int k) {
            return k >= 0 && k < atoms && k < found.length ? found[k] : null;
        }

        /** A new ATOM; null if there are as many as may be. */
        Atom addAtom(int kind, int place) {
            if (atoms < 0 || atoms >= found.length) {
                return null;
            }
            Atom made = new Atom(kind, place, atoms);
            found[atoms] = made;
            atoms++;
            return made;
        }

        void addQuoted(int value) {
            quoted.add(value);
        }

        int drawnByte(int number) {
            int many = quoted.size();
            return many > 0 ? quoted.at(number % many) : '0' + number % 10;
        }
    }

    /** Reads a GRAMMAR from bytes, or finds the FAULT in them. */
    private static final class Reader {
        private final Row signs;
        private final Grammar made = new Grammar();
        private final Row firstUse = new Row(RULES);
        private int at = 0;
        private int open = 0;
        int fault = NONE;

        Reader(Row signs) {
            this.signs = signs;
            firstUse.fill(RULES, NONE);
        }

        Grammar read() {
            readRule();
            for (int k = 0; k < RULES && more(); k++) {
                readRule();
            }
            findUnknownName();
            if (fault == NONE) {
                new May(made).find();
            }
            return made;
        }

        private void fail(int place) {
            if (fault == NONE) {
                fault = place;
            }
        }

        /** The next byte that is not a blank; NONE at the end. */
        private int ahead() {
            while (at < signs.size() && signs.at(at) == ' ') {
                at++;
            }
            return signs.at(at);
        }

        private boolean more() {
            return fault == NONE && ahead() != NONE;
        }

        private boolean takes(int sign) {
            if (fault != NONE || ahead() != sign) {
                return false;
            }
            at++;
            return true;
        }

        private void must(int sign) {
            if (!takes(sign)) {
                fail(at);
            }
        }

        private static boolean isName(int sign) {
            return sign >= 'A' && sign <= 'H';
        }

        private static boolean isSmall(int sign) {
            return sign >= 'a' && sign <= 'z';
        }

        private void readRule() {
            int sign = ahead();
            int rule = sign - 'A';
            if (!isName(sign) || made.has(rule)) {
                fail(at);
                return;
            }
            at++;
            must('=');
            int atomsAhead = made.atoms;
            Seq body = readAlt();
            must(';');
            made.addRule(rule, body, made.atoms - atomsAhead);
        }

        private Seq readAlt() {
            Seq first = readSeq();
            Seq latest = first;
            for (int k = 0; k < TAPE_ROOM && takes('|'); k++) {
                Seq seq = readSeq();
                latest.next = seq;
                latest = seq;
            }
            return first;
        }

        private Seq readSeq() {
            Seq seq = new Seq();
            seq.head = readItem();
            Part latest = seq.head;
            for (int k = 0; k < TAPE_ROOM && latest != null && partAhead(); k++) {
                Part part = readItem();
                latest.next = part;
                latest = part;
            }
            return seq;
        }

        private boolean partAhead() {
            if (fault != NONE) {
                return false;
            }
            int sign = ahead();
            return sign == '\'' || sign == '[' || sign == '(' || isName(sign) || isSmall(sign);
        }

        private Part readItem() {
            if (!partAhead()) {
                fail(at);
                return null;
            }
            Part part = readPart();
            if (takes(MANY)) {
                part.times = MANY;
            } else if (takes(SOME)) {
                part.times = SOME;
            } else if (takes(MAYBE)) {
                part.times = MAYBE;
            }
            return part;
        }

        private Part readPart() {
            int sign = ahead();
            if (sign == '\'') {
                return readQuoted();
            }
            if (sign == '[') {
                return readRange();
            }
            if (sign == '(') {
                Part part = new Part(BRACKET);
                readBody(part);
                return part;
            }
            return isName(sign) ? readName(sign - 'A') : readWord();
        }

        private Part newPart(int kind) {
            Part part = new Part(kind);
            if (kind <= AS) {
                part.atom = made.addAtom(kind, at);
                if (part.atom == null) {
                    fail(at);
                }
            }
            return part;
        }

        private Part readQuoted() {
            Part part = newPart(QUOTED);
            at++;
            int value = signs.at(at);
            if (value == NONE || value == '\'') {
                fail(at);
                return part;
            }
            at++;
            closeBytes(part, '\'', value, value);
            made.addQuoted(value);
            return part;
        }

        private Part readRange() {
            Part part = newPart(RANGE);
            at++;
            int low = signs.at(at);
            if (low == NONE) {
                fail(at);
                return part;
            }
            at++;
            int high = signs.at(at);
            if (high < low) {
                fail(at);
                return part;
            }
            at++;
            closeBytes(part, ']', low, high);
            return part;
        }

        private void closeBytes(Part part, int sign, int low, int high) {
            if (signs.at(at) != sign) {
                fail(at);
            } else {
                at++;
            }
            if (part.atom != null) {
                part.atom.low = low;
                part.atom.high = high;
            }
        }

        private Part readName(int rule) {
            Part part = new Part(NAME);
            part.named = rule;
            if (firstUse.at(rule) == NONE) {
                firstUse.put(rule, at);
            }
            at++;
            return part;
        }

        private Part readWord() {
            int end = at;
            while (end < signs.size() && isSmall(signs.at(end))) {
                end++;
            }
            int kind = wordKind(end);
            if (kind == NONE) {
                fail(at);
                return new Part(CUT);
            }
            Part part = newPart(kind);
            at = end;
            if (kind == CHAIN) {
                readChain(part);
            } else if (kind == TRY || kind == NOT || kind == LOOK || kind == AS) {
                readBody(part);
            }
            return part;
        }

        private int wordKind(int end) {
            return spells("digit", end) ? DIGIT
                : spells("any", end) ? ANY
                : spells("end", end) ? END
                : spells("cut", end) ? CUT
                : spells("try", end) ? TRY
                : spells("not", end) ? NOT
                : spells("look", end) ? LOOK
                : spells("as", end) ? AS
                : spells("chain", end) ? CHAIN
                : NONE;
        }

        private boolean spells(String word, int end) {
            if (word.length() != end - at) {
                return false;
            }
            for (int k = 0; k < word.length(); k++) {
                if (signs.at(at + k) != word.charAt(k)) {
                    return false;
                }
            }
            return true;
        }

        private boolean opens() {
            if (open >= BRACKETS || !takes('(')) {
                ahead();
                fail(at);
                return false;
            }
            open++;
            return true;
        }

        private void readBody(Part part) {
            if (opens()) {
                part.body = readAlt();
                must(')');
                open--;
            }
        }

        private void readChain(Part part) {
            if (opens()) {
                part.body = readAlt();
                must(',');
                part.second = readAlt();
                must(')');
                open--;
            }
        }

        private void findUnknownName() {
            int first = NONE;
            for (int rule = 0; rule < RULES; rule++) {
                int place = firstUse.at(rule);
                if (place != NONE && !made.has(rule) && (first == NONE || place < first)) {
                    first = place;
                }
            }
            if (first != NONE) {
                fail(first);
            }
        }
    }

    /** Which RULES may be NOTHING and which come to SELF; brackets open at most 8 deep keep its calls few. */
    private static final class May {
        private final Grammar made;
        private final Row heads = new Row(RULES);

        May(Grammar made) {
            this.made = made;
        }

        void find() {
            for (int round = 0; round < RULES; round++) {
                for (int rule = 0; rule < RULES; rule++) {
                    if (altNothing(made.body(rule))) {
                        made.nothing |= 1 << rule;
                    }
                }
            }
            heads.fill(RULES, 0);
            for (int rule = 0; rule < RULES; rule++) {
                heads.put(rule, altHeads(made.body(rule)));
            }
            for (int through = 0; through < RULES; through++) {
                join(through);
            }
            for (int rule = 0; rule < RULES; rule++) {
                made.self |= heads.at(rule) & 1 << rule;
            }
        }

        private void join(int through) {
            for (int rule = 0; rule < RULES; rule++) {
                int so = heads.at(rule);
                if ((so >>> through & 1) == 1) {
                    heads.put(rule, so | heads.at(through));
                }
            }
        }

        private boolean altNothing(Seq alt) {
            for (Seq seq = alt; seq != null; seq = seq.next) {
                if (seqNothing(seq)) {
                    return true;
                }
            }
            return false;
        }

        private boolean seqNothing(Seq seq) {
            for (Part part = seq.head; part != null; part = part.next) {
                if (!itemNothing(part)) {
                    return false;
                }
            }
            return true;
        }

        private boolean itemNothing(Part part) {
            if (part.times == MANY || part.times == MAYBE) {
                return true;
            }
            switch (part.kind) {
                case QUOTED: case RANGE: case DIGIT: case ANY: return false;
                case END: case CUT: case NOT: case LOOK: return true;
                case NAME: return (made.nothing >>> part.named & 1) == 1;
                default: return altNothing(part.body);
            }
        }

        /** The RULES, as bits, that an ALT may come to where it began. */
        private int altHeads(Seq alt) {
            int bits = 0;
            for (Seq seq = alt; seq != null; seq = seq.next) {
                for (Part part = seq.head; part != null; part = part.next) {
                    bits |= partHeads(part);
                    if (!itemNothing(part)) {
                        break;
                    }
                }
            }
            return bits;
        }

        private int partHeads(Part part) {
            if (part.kind == NAME) {
                return 1 << part.named;
            }
            int bits = altHeads(part.body);
            return part.kind == CHAIN && altNothing(part.body) ? bits | altHeads(part.second) : bits;
        }
    }

    /**
     * The TREES of one PARSE, by number; one that stands in several (MEMORY gives it again) is held once.
     * The numbers 0 .. 255 are the LEAVES of these numbers, HOLLOW is the empty BOUGH.
     */
    private static final class Trees {
        static final int HOLLOW = BYTES, TOO_BIG = BAD;

        // Each that is made has taken two STEPS that no other of its sort took: 500 of SEQS, of repetitions, of chains.
        private static final int MADE = 2 * PARSE_STEPS, ROOM = HOLLOW + 1 + MADE;

        private final Row sort = new Row(ROOM);
        private final Row number = new Row(ROOM);
        private final Row firstKid = new Row(ROOM);
        private final Row size = new Row(ROOM);
        private final Row value = new Row(ROOM);
        private final Row kids = new Row(3 * PARSE_STEPS);
        private final Row held = new Row(2 * PARSE_STEPS);

        Trees() {
            for (int k = 0; k < BYTES; k++) {
                make(LEAF, k, 1, k);
            }
            make(BOUGH, 0, 1, 0);
        }

        void clear() {
            sort.shrink(HOLLOW + 1);
            number.shrink(HOLLOW + 1);
            firstKid.shrink(HOLLOW + 1);
            size.shrink(HOLLOW + 1);
            value.shrink(HOLLOW + 1);
            kids.shrink(0);
            held.shrink(0);
        }

        /** Its kids are the ones that come next behind the kids that there are. */
        private int make(int what, int count, int nodes, int worthIt) {
            sort.add(what);
            number.add(count);
            firstKid.add(kids.size());
            size.add(nodes);
            value.add(worthIt);
            return sort.size() - 1;
        }

        int sortOf(int tree) {
            return sort.at(tree);
        }

        int numberOf(int tree) {
            return number.at(tree);
        }

        int sizeOf(int tree) {
            return tree == NONE ? 0 : size.at(tree);
        }

        int valueOf(int tree) {
            return tree == NONE ? 0 : value.at(tree);
        }

        int kidsOf(int tree) {
            int what = sort.at(tree);
            return what == BOUGH ? number.at(tree) : what == FORK ? 2 : 0;
        }

        int kid(int tree, int k) {
            return kids.at(firstKid.at(tree) + k);
        }

        /** From here on TREES are held for one BOUGH. */
        int mark() {
            return held.size();
        }

        void hold(int tree) {
            held.add(tree);
        }

        void drop(int mark) {
            held.shrink(mark);
        }

        int bough(int mark) {
            int many = held.size() - mark;
            if (many <= 0) {
                return HOLLOW;
            }
            int nodes = 1;
            int sum = 0;
            for (int k = 0; k < many; k++) {
                int tree = held.at(mark + k);
                nodes += size.at(tree);
                sum = sum * 10 + value.at(tree);
            }
            if (nodes > NODES) {
                return TOO_BIG;
            }
            int made = make(BOUGH, many, nodes, sum);
            for (int k = 0; k < many; k++) {
                kids.add(held.at(mark + k));
            }
            held.shrink(mark);
            return made;
        }

        /** The TREE of a SEQ; quoted is that of its first ' '. */
        int joined(int mark, int quoted) {
            int many = held.size() - mark;
            if (many > 1) {
                return bough(mark);
            }
            int tree = many == 1 ? held.at(mark) : quoted;
            held.shrink(mark);
            return tree;
        }

        int fork(int sign, int left, int right) {
            int first = left == NONE ? HOLLOW : left;
            int second = right == NONE ? HOLLOW : right;
            int nodes = 1 + size.at(first) + size.at(second);
            if (nodes > NODES) {
                return TOO_BIG;
            }
            int code = sort.at(sign) == LEAF ? number.at(sign) : 0;
            int made = make(FORK, code, nodes, reckoned(code, value.at(first), value.at(second)));
            kids.add(first);
            kids.add(second);
            return made;
        }

        private static int reckoned(int code, int left, int right) {
            return code == '+' ? left + right : code == '-' ? left - right : code == '*' ? left * right : 0;
        }
    }

    /**
     * One PARSE after the other. A method of it answers where something was DONE, FAILS, or what ended the PARSE
     * (less than FAILS); tree and sharp tell the rest of the answer.
     */
    private static final class Run {
        // A part that needs its ALT parsed; and in MEMORY: nothing yet, being run.
        private static final int OPEN = -7, UNKNOWN = -8, RUNNING = -9;

        private final Row memory = new Row(RULES * PLACES);
        private final Row memoryTree = new Row(RULES * PLACES);
        private final Row memorySharp = new Row(RULES * PLACES);
        private final Trees trees = new Trees();
        private Grammar laws = new Grammar();
        private Row over = new Row(0);
        private int tree = NONE;
        int steps = 0;
        int spent = 0;
        int remembered = 0;
        int far = NONE;
        int wanted = 0;
        boolean sharp = false;

        Run() {
            memoryTree.fill(RULES * PLACES, NONE);
            memorySharp.fill(RULES * PLACES, 0);
        }

        int through(Grammar newLaws, Row newOver, int rule, int place) {
            laws = newLaws;
            over = newOver;
            steps = 0;
            remembered = 0;
            far = NONE;
            wanted = 0;
            memory.fill(RULES * PLACES, UNKNOWN);
            trees.clear();
            int at = ruled(rule, place, 0);
            if (at < 0) {
                tree = NONE;
            }
            if (at < FAILS) {
                sharp = false;
            }
            return at;
        }

        private int ruled(int rule, int place, int depth) {
            int key = rule * PLACES + place;
            memory.put(key, RUNNING);
            int at = alternatives(laws.body(rule), place, depth);
            if (at >= FAILS) {
                memory.put(key, at);
                memoryTree.put(key, tree);
                memorySharp.put(key, sharp ? 1 : 0);
            }
            return at;
        }

        private int alternatives(Seq alt, int place, int depth) {
            for (Seq seq = alt; seq != null; seq = seq.next) {
                int at = sequence(seq, place, depth);
                if (at != FAILS || sharp) {
                    return at;
                }
            }
            tree = NONE;
            sharp = false;
            return FAILS;
        }

        private int sequence(Seq seq, int place, int depth) {
            int mark = trees.mark();
            int at = place;
            int quoted = NONE;
            boolean cut = false;
            for (Part part = seq.head; part != null; part = part.next) {
                at = item(part, at, depth);
                cut = cut || sharp;
                if (at < 0) {
                    trees.drop(mark);
                    sharp = cut;
                    return at;
                }
                if (part.justQuoted()) {
                    quoted = quoted == NONE ? tree : quoted;
                } else if (tree != NONE) {
                    trees.hold(tree);
                }
            }
            sharp = cut;
            tree = trees.joined(mark, quoted);
            return tree == Trees.TOO_BIG ? BIG : at;
        }

        private int item(Part part, int place, int depth) {
            int mark = trees.mark();
            int at = place;
            boolean cut = false;
            for (int round = 0; round <= PARSE_STEPS; round++) {
                int next = stepped(part, at, depth);
                if (next == OPEN) {
                    // Told apart here, not in a method of its own: each level of PARTS takes four calls.
                    next = part.kind == NAME ? ruled(part.named, at, depth + 1)
                        : part.kind == CHAIN ? chained(part, at, depth + 1)
                        : bracketed(part, at, depth + 1);
                }
                if (part.times == ONCE || next < FAILS || next == FAILS && sharp) {
                    return next;
                }
                if (part.times == MAYBE) {
                    return next == FAILS ? settled(Trees.HOLLOW, false, at) : next;
                }
                if (next == FAILS) {
                    return part.times == SOME && round == 0 ? FAILS : settled(trees.bough(mark), cut, at);
                }
                if (next == at) {
                    return LOOP;
                }
                at = next;
                cut = cut || sharp;
                if (tree != NONE) {
                    trees.hold(tree);
                }
            }
            return STEPS;
        }

        private int settled(int newTree, boolean newSharp, int at) {
            tree = newTree;
            sharp = newSharp;
            return newTree == Trees.TOO_BIG ? BIG : at;
        }

        /** The STEP itself: what ends the PARSE, what answers at once, or OPEN. */
        private int stepped(Part part, int place, int depth) {
            if (steps >= PARSE_STEPS || spent >= ALL_STEPS) {
                return STEPS;
            }
            steps++;
            spent++;
            if (depth >= WITHIN) {
                return DEEP;
            }
            tree = NONE;
            sharp = part.kind == CUT;
            if (part.kind == NAME) {
                return recalled(part.named * PLACES + place);
            }
            if (part.kind == CUT) {
                return place;
            }
            return part.kind <= END ? matched(part, place) : OPEN;
        }

        private int recalled(int key) {
            int kept = memory.at(key);
            if (kept == UNKNOWN) {
                return OPEN;
            }
            if (kept == RUNNING) {
                return RING;
            }
            remembered++;
            tree = memoryTree.at(key);
            sharp = memorySharp.at(key) == 1;
            return kept;
        }

        private int matched(Part part, int place) {
            int sign = over.at(place);
            if (part.kind == END && sign == NONE) {
                return place;
            }
            if (!fits(part, sign)) {
                expect(part.atom, place);
                return FAILS;
            }
            tree = part.kind == DIGIT ? sign - '0' : sign;
            return place + 1;
        }

        private static boolean fits(Part part, int sign) {
            if (sign == NONE || part.kind == END) {
                return false;
            }
            if (part.kind == DIGIT) {
                return sign >= '0' && sign <= '9';
            }
            return part.kind == ANY || part.atom != null && sign >= part.atom.low && sign <= part.atom.high;
        }

        private int bracketed(Part part, int place, int depth) {
            int farAhead = far;
            int wantedAhead = wanted;
            boolean veiled = part.kind == NOT || part.kind == AS;
            if (veiled) {
                far = NONE;
                wanted = 0;
            }
            int at = alternatives(part.body, place, depth);
            if (veiled) {
                at = unveiled(part, place, at, farAhead, wantedAhead);
            }
            sharp = sharp && (part.kind == BRACKET || part.kind == AS);
            return part.kind == LOOK && at >= 0 ? place : at;
        }

        /** The answer of not or as, when its ALT answered at; what was EXPECTED within counts from here, if at all. */
        private int unveiled(Part part, int place, int at, int farAhead, int wantedAhead) {
            int farWithin = far;
            int wantedWithin = wanted;
            far = farAhead;
            wanted = wantedAhead;
            if (at < FAILS) {
                return at;
            }
            if (part.kind == NOT) {
                tree = NONE;
                if (at >= 0) {
                    expect(part.atom, place);
                }
                return at == FAILS ? place : FAILS;
            }
            if (at >= 0 || farWithin > place) {
                note(farWithin, wantedWithin);
            }
            if (at == FAILS) {
                expect(part.atom, place);
            }
            return at;
        }

        private int chained(Part part, int place, int depth) {
            int at = alternatives(part.body, place, depth);
            int whole = tree;
            boolean cut = sharp;
            for (int round = 0; round <= PARSE_STEPS && at >= 0; round++) {
                int next = alternatives(part.second, at, depth);
                if (next < 0) {
                    return next == FAILS && !sharp ? settled(whole, cut, at) : next;
                }
                int sign = tree;
                boolean cutAhead = sharp;
                next = alternatives(part.body, next, depth);
                sharp = sharp || cutAhead;
                if (next < 0) {
                    return next == FAILS && !sharp ? settled(whole, cut, at) : next;
                }
                if (next == at) {
                    return LOOP;
                }
                whole = trees.fork(sign, whole, tree);
                if (whole == Trees.TOO_BIG) {
                    return BIG;
                }
                cut = cut || sharp;
                at = next;
            }
            return at;
        }

        private void expect(Atom atom, int place) {
            if (atom != null) {
                note(place, atom.bit());
            }
        }

        private void note(int place, int bits) {
            if (place > far) {
                far = place;
                wanted = bits;
            } else if (place == far) {
                wanted |= bits;
            }
        }
    }

    /** What the last PARSE left: DRAWN uses its TREES anew, so they are written out here. */
    private static final class Last {
        boolean known = false;
        int far = NONE;
        int wanted = 0;
        int steps = 0;
        int remembered = 0;
        int value = 0;
        boolean sharp = false;
        private final Row sort = new Row(NODES);
        private final Row number = new Row(NODES);
        private final Row within = new Row(NODES);
        private final Row open = new Row(NODES);
        // A NODE has at most three bytes of its own and a comma.
        private final Row signs = new Row(4 * NODES);
        private boolean spelled = false;

        void forget() {
            known = false;
        }

        void keep(Run run) {
            known = true;
            far = run.far;
            wanted = run.wanted;
            steps = run.steps;
            remembered = run.remembered;
            sharp = run.sharp;
            value = run.trees.valueOf(run.tree);
            spelled = false;
            list(run.trees, run.tree);
        }

        private void list(Trees trees, int root) {
            int many = trees.sizeOf(root);
            sort.fill(many, LEAF);
            within.fill(many, 0);
            // Till its turn comes, a NODE's number is that of its TREE: sizes tell where the next one stands.
            number.fill(many, root);
            for (int k = 0; k < many; k++) {
                int tree = number.at(k);
                sort.put(k, trees.sortOf(tree));
                number.put(k, trees.numberOf(tree));
                int next = k + 1;
                int kids = trees.kidsOf(tree);
                for (int j = 0; j < kids; j++) {
                    int kid = trees.kid(tree, j);
                    number.put(next, kid);
                    within.put(next, within.at(k) + 1);
                    next += trees.sizeOf(kid);
                }
            }
        }

        int nodes() {
            return sort.size();
        }

        int about(int k, int what) {
            return what == 0 ? sort.at(k) : what == 1 ? number.at(k) : within.at(k);
        }

        int sign(int k) {
            if (!spelled) {
                spell();
                spelled = true;
            }
            return signs.at(k);
        }

        private void spell() {
            signs.shrink(0);
            open.shrink(0);
            for (int k = 0; k < sort.size(); k++) {
                close(within.at(k));
                part(k);
                if (sort.at(k) == LEAF) {
                    spellNumber(number.at(k));
                } else {
                    signs.add(sort.at(k) == BOUGH ? '[' : '(');
                    open.add(k);
                }
            }
            close(0);
        }

        /** Writes the ends of those open, till only so many are. */
        private void close(int left) {
            for (int k = open.size() - 1; k >= left; k--) {
                signs.add(sort.at(open.at(k)) == BOUGH ? ']' : ')');
            }
            open.shrink(left);
        }

        /** Writes what parts the NODE from the one ahead of it in the same NODE. */
        private void part(int k) {
            int around = open.at(open.size() - 1);
            if (around == NONE || around == k - 1) {
                return;
            }
            int code = number.at(around);
            signs.add(sort.at(around) == BOUGH ? ',' : code == 0 ? '?' : code);
        }

        private void spellNumber(int value) {
            if (value >= 100) {
                signs.add('0' + value / 100);
            }
            if (value >= 10) {
                signs.add('0' + value / 10 % 10);
            }
            signs.add('0' + value % 10);
        }
    }
}
