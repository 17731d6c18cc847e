/** Each sentence of the document that names a boundary has a test of its own, which names it; none is left out. */
public final class SentenceTest {
    public static void main(String[] args) {
        FaceSentences.all();
        BaySentences.all();
        ShipSentences.all();
        TextSentences.all();
        HourSentences.all();
        ThoughtSentences.all();
        VoiceSentences.all();
        SheetSentences.all();
        ImageSentences.all();
        Sentence.noneIsLeftOut();
        Expect.end();
    }
}
