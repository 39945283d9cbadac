import java.io.IOException;

/** Every sentence of the document, from its terms to its last promise, with checks of its own. */
public final class BoundaryTests {
    public static void main(String[] args) throws IOException {
        Checks checks = new Checks();
        Document document = new Document();
        Sentences[] all = {new ConventionSentences(checks, document), new TermSentences(checks, document),
            new TextSentences(checks, document), new PromiseSentences(checks, document), new KeepingSentences(checks, document)};
        for (Sentences sentences : all) {
            sentences.run();
        }
        for (String words : document.neverQuoted()) {
            checks.that("a test quotes of the document, " + words, false);
        }
        checks.end();
    }
}
