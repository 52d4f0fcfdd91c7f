import java.io.IOException;
import java.io.OutputStream;
import java.io.PrintStream;
import java.nio.file.Files;
import java.nio.file.Path;
import java.util.List;

/** Breaks each sentence in copies of the class, and wants that the sentence's own test tells of each of them. */
final class BrokenInnsTest {
    public static void main(String[] args) throws IOException {
        String source = Files.readString(Path.of("src/main/java/GhostInn.java"));
        List<Sentence> sentences = Sentences.all();
        BrokenLoader unbroken = new BrokenLoader(source);
        int told = 0;
        for (int number = 0; number < sentences.size(); number++) {
            Sentence sentence = sentences.get(number);
            Check.equal(sentence + " tells nothing of the class itself", 0, wrongAnswers(unbroken, number));
            Check.equal(sentence + " can be broken", true, !sentence.breaks().isEmpty());
            for (Sentence.Break broken : sentence.breaks()) {
                String what = sentence + "\n        tells of " + broken.otherwise() + " in " + broken.method();
                Check.equal(what, true, tells(number, broken, source));
                told++;
            }
        }
        System.out.println(told + " broken inns, " + sentences.size() + " sentences");
        Check.end();
    }

    private static boolean tells(int number, Sentence.Break broken, String source) {
        try {
            return wrongAnswers(new BrokenLoader(broken.in(source)), number) > 0;
        } catch (IllegalStateException e) {
            System.out.println("no broken inn was made: " + e.getMessage());
            return false;
        }
    }

    /** By the sentence's test, run with the inn of this loader; what it prints is not for this log. */
    private static int wrongAnswers(BrokenLoader loader, int number) {
        PrintStream out = System.out;
        System.setOut(new PrintStream(OutputStream.nullOutputStream()));
        try {
            return (Integer) loader.loadClass("Sentences").getMethod("wrongAnswersOf", int.class).invoke(null, number);
        } catch (ReflectiveOperationException e) {
            throw new IllegalStateException("the test was not run: " + e.getCause(), e);
        } finally {
            System.setOut(out);
        }
    }
}
