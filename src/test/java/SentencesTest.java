/** Every sentence of the document that asks something of the class, each with cases of its own at its edges. */
public final class SentencesTest {
    public static void main(String[] args) throws Exception {
        Sentences s = new Sentences();
        AnswerSentences.hold(s);
        TextSentences.hold(s);
        ChipSentences.hold(s);
        TickSentences.hold(s);
        ProbeSentences.hold(s);
        NetSentences.hold(s);
        TrialSentences.hold(s);
        SheetSentences.hold(s);
        s.finish();
    }
}
