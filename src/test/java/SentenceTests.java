/** A test for each sentence of the document, with calls on both sides of each boundary that it names. */
public final class SentenceTests {
    private SentenceTests() {
    }

    public static void main(String[] args) {
        ToldSentences.all();
        TradeSentences.all();
        AskedSentences.all();
        TermSentences.all();
        LoanSentences.all();
        Document.expectAllNamed();
        Script.end();
    }
}
