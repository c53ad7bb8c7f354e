/** Each sentence of the document's Terms and promises, its bounds above all, with a test of its own that names it. */
public final class SentencesTest {
    public static void main(String[] args) throws Exception {
        Sentences s = new Sentences();
        AnswerSentences.all(s);
        PeopleSentences.all(s);
        TaxSentences.all(s);
        TextSentences.all(s);
        WalkSentences.all(s);
        CheapestSentences.all(s);
        FordSentences.all(s);
        MarketSentences.all(s);
        BrotherSentences.all(s);
        PrintSentences.all(s);
        BookSentences.all(s);
        SheetSentences.all(s);
        s.untold();
        s.end();
    }
}
