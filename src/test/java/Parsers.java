/** The class under test, called no more often than the document promises an answer for. */
final class Parsers {
    static final int CALLS = 512;

    /** A test's fault, not the class's. */
    static final class UsedUp extends RuntimeException {
        private static final long serialVersionUID = 1;

        UsedUp() {
            super("more than " + CALLS + " calls");
        }
    }

    private final CommittedParsers parsers = new CommittedParsers();
    private int calls = 0;

    private CommittedParsers called() {
        calls++;
        if (calls > CALLS) {
            throw new UsedUp();
        }
        return parsers;
    }

    int feed(int n, int word) {
        return called().feed(n, word);
    }

    int grammar() {
        return called().grammar();
    }

    int input() {
        return called().input();
    }

    int parse(int rule, int place) {
        return called().parse(rule, place);
    }

    int told(int what) {
        return called().told(what);
    }

    int node(int k, int what) {
        return called().node(k, what);
    }

    int worth() {
        return called().worth();
    }

    int text(int k) {
        return called().text(k);
    }

    int rule(int rule, int what) {
        return called().rule(rule, what);
    }

    int atom(int atom, int what) {
        return called().atom(atom, what);
    }

    int drawn(int rule, int seed, int n, int m) {
        return called().drawn(rule, seed, n, m);
    }

    int count(int what) {
        return called().count(what);
    }
}
