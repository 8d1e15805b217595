import java.io.IOException;

/** Each sentence of the document has a test of its own, with the calls that lead to the edges that it names. */
public final class SentencesTest {
    public static void main(String[] args) throws IOException {
        Document document = Document.read();
        Sentences[] parts = {new SentencesOfTerms(document), new SentencesOfTexts(document),
                new SentencesOfTables(document),
            new SentencesOfFilters(document), new SentencesOfQueries(document), new SentencesOfCalls(document)};
        for (Sentences part : parts) {
            part.all();
        }
        document.end();
        Expect.end();
    }
}
