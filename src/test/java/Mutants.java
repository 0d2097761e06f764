import java.io.IOException;
import java.io.OutputStream;
import java.io.PrintStream;
import java.net.URL;
import java.net.URLClassLoader;
import java.nio.file.Files;
import java.nio.file.Path;
import java.util.ArrayList;
import java.util.HashSet;
import java.util.List;
import java.util.Set;
import java.util.concurrent.ExecutorService;
import java.util.concurrent.Executors;
import java.util.concurrent.Future;
import java.util.concurrent.TimeUnit;
import javax.tools.ToolProvider;

/**
 * Not a test of the class but of BoundariesTest: the class is changed as src/test/mutants.txt says, one change at a
 * time, and the test of the sentence that the change breaks must fail. Run by .ci/mutants.
 */
public final class Mutants {
    private static final Path SOURCE = Path.of("src/main/java/CommittedParsers.java"), CHANGES = Path.of("src/test/mutants.txt");
    private static final PrintStream OUT = System.out;

    private record Mutant(int line, String title, String in, String find, String put) { }

    private static Path classes;
    private static Path room;

    /** The folder with the classes of the tests, and an empty one. */
    public static void main(String[] args) throws Exception {
        classes = Path.of(args[0]);
        room = Path.of(args[1]);
        String source = Files.readString(SOURCE);
        List<Mutant> mutants = read();
        System.setOut(new PrintStream(OutputStream.nullOutputStream()));
        ExecutorService workers = Executors.newFixedThreadPool(Runtime.getRuntime().availableProcessors(), Mutants::daemon);
        List<Future<String>> answers = new ArrayList<>();
        for (Mutant mutant : mutants) {
            answers.add(workers.submit(() -> tried(mutant, source)));
        }
        int missed = 0;
        for (int k = 0; k < answers.size(); k++) {
            String answer;
            try {
                answer = answers.get(k).get(60, TimeUnit.SECONDS);
            } catch (java.util.concurrent.TimeoutException late) {
                answer = "";
                OUT.println("line " + mutants.get(k).line + " takes long, that counts as broken");
            }
            if (!answer.isEmpty()) {
                missed++;
                OUT.println("line " + mutants.get(k).line + ", " + mutants.get(k).title + ": " + answer);
            }
        }
        missed += untried(mutants) + misquoted();
        OUT.println(mutants.size() + " mutants, " + missed + " faults");
        System.exit(missed > 0 ? 1 : 0);
    }

    private static Thread daemon(Runnable work) {
        Thread thread = new Thread(null, work, "mutant", 1L << 26);
        thread.setDaemon(true);
        return thread;
    }

    private static List<Mutant> read() throws IOException {
        List<Mutant> all = new ArrayList<>();
        String title = "", in = "", find = "";
        List<String> lines = Files.readAllLines(CHANGES);
        for (int k = 0; k < lines.size(); k++) {
            String line = lines.get(k);
            String rest = line.length() > 2 ? line.substring(2).replace("\\n", "\n") : "";
            if (line.matches("\\d+ \\| .*")) {
                int bar = line.indexOf(" | ");
                title = new Sentence(Integer.parseInt(line.substring(0, bar)), line.substring(bar + 3), null).title();
                in = "";
            } else if (line.startsWith("in ")) {
                in = line.substring(3);
            } else if (line.startsWith("-")) {
                find = rest;
            } else if (line.startsWith("+")) {
                all.add(new Mutant(k + 1, title, in, find, rest));
            }
        }
        return all;
    }

    /** Nothing, or why the mutant doesn't show that the sentence's test is good. */
    private static String tried(Mutant mutant, String source) throws Exception {
        int from = mutant.in.isEmpty() ? 0 : source.indexOf(mutant.in);
        int at = from < 0 ? -1 : source.indexOf(mutant.find, from);
        if (at < 0) {
            return "the class has no such text";
        }
        if (mutant.in.isEmpty() && source.indexOf(mutant.find, at + 1) >= 0) {
            return "the class has this text twice";
        }
        Path folder = Files.createDirectories(room.resolve("" + mutant.line));
        Path file = folder.resolve("CommittedParsers.java");
        Files.writeString(file, source.substring(0, at) + mutant.put + source.substring(at + mutant.find.length()));
        if (ToolProvider.getSystemJavaCompiler().run(null, null, OutputStream.nullOutputStream(), "-nowarn", "-d", folder.toString(),
            file.toString()) != 0) {
            return "it can't be compiled";
        }
        Set<String> broken = brokenBy(folder);
        return broken.contains(mutant.title) ? "" : "its test doesn't fail, but " + broken.size() + " others";
    }

    /** The titles of the sentences whose tests fail with the class in this folder. */
    private static Set<String> brokenBy(Path folder) throws Exception {
        URL[] places = {folder.toUri().toURL(), classes.toUri().toURL()};
        try (URLClassLoader loader = new URLClassLoader(places, ClassLoader.getPlatformClassLoader())) {
            Class<?> boundaries = loader.loadClass("BoundariesTest");
            Object broken = boundaries.getMethod("brokenSentences").invoke(null);
            Set<String> titles = new HashSet<>();
            for (Object title : (Set<?>) broken) {
                titles.add(title.toString());
            }
            return titles;
        }
    }

    /** Tells the sentences that the document doesn't have so. */
    private static int misquoted() throws IOException {
        String text = Files.readString(Path.of("../shared/DOC.md")).replaceAll("\\s+", " ");
        int missing = 0;
        for (Sentence sentence : BoundariesTest.sentences()) {
            if (!text.contains(sentence.words())) {
                missing++;
                OUT.println("the document doesn't say: " + sentence.words());
            }
        }
        return missing;
    }

    /** Tells the sentences that no mutant breaks. */
    private static int untried(List<Mutant> mutants) {
        Set<String> titles = new HashSet<>();
        for (Mutant mutant : mutants) {
            titles.add(mutant.title);
        }
        int untried = 0;
        for (Sentence sentence : BoundariesTest.sentences()) {
            if (!titles.contains(sentence.title())) {
                untried++;
                OUT.println("no mutant breaks " + sentence.title());
            }
        }
        return untried;
    }
}
