/** Each sentence of the document that names a bound has its test, which quotes it; what no test quotes is told, and fails. */
public final class BoundsTest {
    public static void main(String[] args) {
        BoundsOfTexts.all();
        BoundsOfActs.all();
        BoundsOfLooks.all();
        BoundsOfMen.all();
        BoundsOfSets.all();
        BoundsOfPast.all();
        Refusals.all();
        for (String words : Bound.doc.unquoted()) {
            Bound.due("no test quotes: " + words, false, true);
        }
        Bound.c.end("BoundsTest");
    }
}
