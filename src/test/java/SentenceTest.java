import java.io.IOException;
import java.nio.file.Path;

/** The document, sentence by sentence, and whether a sentence of it has no test. */
public final class SentenceTest {
    private static final Path DOCUMENT = Path.of("../shared/DOC.md");

    public static void main(String[] args) throws IOException {
        Sentences sentences = new Sentences();
        new TermSentences(sentences).tell();
        new ProgramSentences(sentences).tell();
        new RunSentences(sentences).tell();
        new RowSentences(sentences).tell();
        new OutSentences(sentences).tell();
        new SheetSentences(sentences).tell();
        sentences.compareWith(DOCUMENT);
        sentences.end();
    }
}
