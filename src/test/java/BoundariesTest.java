import java.util.ArrayList;
import java.util.List;
import java.util.Set;

/**
 * Each sentence of the document that names a boundary (too small, too large, empty, full, a wrap-around, a refused
 * call), under its promise's number, with a test of its own.
 */
public final class BoundariesTest {
    private static final int PROMISES = 13;

    public static void main(String[] args) {
        for (int promise = 1; promise <= PROMISES; promise++) {
            List<Sentence> its = new ArrayList<>();
            for (Sentence sentence : sentences()) {
                if (sentence.promise() == promise) {
                    its.add(sentence);
                }
            }
            int before = Bench.asked();
            Sentence.askAll(its);
            System.out.println("promise " + promise + ": " + its.size() + " sentences, " + (Bench.asked() - before) + " answers");
        }
        Bench.finish("BoundariesTest");
    }

    static List<Sentence> sentences() {
        List<Sentence> all = new ArrayList<>();
        all.addAll(CallBoundaries.sentences());
        all.addAll(GrammarBoundaries.sentences());
        all.addAll(ParseBoundaries.sentences());
        all.addAll(ToldBoundaries.sentences());
        all.addAll(TreeBoundaries.sentences());
        return all;
    }

    /** The titles of those whose test fails; for Mutants. */
    public static Set<String> brokenSentences() {
        Sentence.askAll(sentences());
        return Bench.broken();
    }
}
