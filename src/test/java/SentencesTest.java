import java.io.IOException;
import java.nio.file.Path;

/**
 * The document read from its first sentence to its last: every sentence of the terms, of the
 * constants and of the promises is named by a test of its own, which asks at its bounds.
 */
public final class SentencesTest {
    public static void main(String[] args) throws IOException, IllegalAccessException {
        int wrong = Sentence.runAll(Path.of("../shared/DOC.md"), RefusalSentences.class, WallSentences.class,
                YearSentences.class, GateSentences.class, SightSentences.class);
        if (wrong != 0) {
            System.exit(1);
        }
    }
}
