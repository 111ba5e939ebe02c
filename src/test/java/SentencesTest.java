/** All promises: a test for each sentence of the document, the boundary cases that it names among them. */
public final class SentencesTest {
    public static void main(String[] args) {
        TextSentences.run();
        ReportSentences.run();
        PlanSentences.run();
        FeeSentences.run();
        VoucherSentences.run();
        TicketSentences.run();
        PaymentSentences.run();
        LevelSentences.run();
        StateSentences.run();
        Section.everySentenceIsQuoted();
        Checks.end();
    }
}
