/** The document, promise by promise: each sentence that names an edge has a test of its own. */
final class SentenceTest {
    public static void main(String[] args) {
        TermsSentences.ask();
        TextSentences.ask();
        StockSentences.ask();
        SearchSentences.ask();
        ForecastSentences.ask();
        DaySentences.ask();
        OperationSentences.ask();
        HistorySentences.ask();
        Sentence.end();
    }
}
