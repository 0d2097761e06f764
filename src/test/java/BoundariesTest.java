import java.util.ArrayList;
import java.util.List;
import java.util.Set;

/**
 * Each sentence of the document that names a boundary (too small, too large, empty, full, a wrap-around, a refused
 * call), under its promise's number, with a test of its own.
 */
public final class BoundariesTest {
    public static void main(String[] args) {
        Sentence.askAll(sentences());
        Bench.finish("BoundariesTest, " + sentences().size() + " sentences");
    }

    static List<Sentence> sentences() {
        List<Sentence> all = new ArrayList<>();
        all.addAll(CallBoundaries.sentences());
        all.addAll(GrammarBoundaries.sentences());
        all.addAll(ParseBoundaries.sentences());
        all.addAll(ToldBoundaries.sentences());
        all.addAll(TreeBoundaries.sentences());
        return all;
    }

    /** The titles of those whose test fails; for Mutants. */
    public static Set<String> brokenSentences() {
        Sentence.askAll(sentences());
        return Bench.broken();
    }
}
