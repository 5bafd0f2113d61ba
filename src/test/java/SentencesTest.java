/** Each sentence of the document has a test of its own; none is left out. */
public final class SentencesTest {
    public static void main(String[] args) throws Exception {
        Watch.start("SentencesTest");
        Bounds.readDocument();
        BoundsOfTexts.all();
        BoundsOfLines.all();
        BoundsOfRow.all();
        BoundsOfSights.all();
        BoundsOfGrain.all();
        BoundsOfActs.all();
        Bounds.nothingIsLeftOut();
        System.out.println(Bounds.tests + " sentences, " + Bounds.asked + " asked, " + Bounds.wrong + " wrong");
        if (Bounds.wrong != 0) {
            System.exit(1);
        }
    }
}
