import java.util.List;

/** A sentence of the document that names a boundary, the promise that it belongs to, and the test of it. */
record Sentence(int promise, String words, Runnable test) {

    String title() {
        return "promise " + promise + ", \"" + words + "\"";
    }

    private void ask() {
        Bench.begin(title());
        int before = Bench.asked();
        try {
            test.run();
        } catch (RuntimeException | Error thrown) {
            Bench.due("threw", thrown.toString(), "nothing");
        }
        Bench.due("answers asked for", Bench.asked() > before ? 1 : 0, 1);
        Bench.begin("");
    }

    static void askAll(List<Sentence> sentences) {
        for (Sentence sentence : sentences) {
            sentence.ask();
        }
    }
}
