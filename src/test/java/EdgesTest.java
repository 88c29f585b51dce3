import java.io.IOException;

/** All promises and terms: each sentence of the document at its edges; run from the project's folder. */
public final class EdgesTest {
    private EdgesTest() {
    }

    public static void main(String[] args) throws IOException {
        Checks checks = new Checks();
        Sentences sentences = new Sentences(checks);
        new EdgesOfWhole(checks).testAll(sentences);
        new EdgesOfTerms(checks).testAll(sentences);
        new EdgesOfYard(checks).testAll(sentences);
        new EdgesOfPours(checks).testAll(sentences);
        new EdgesOfPanels(checks).testAll(sentences);
        sentences.compareWith(new Document());
        checks.end("EdgesTest");
    }
}
