/** Promises 1 to 33, sentence by sentence: each boundary that the document names has a test of its own. */
public final class EdgesTest {
    public static void main(String[] args) throws Exception {
        EdgesOfTerms.all();
        EdgesOfRows.all();
        EdgesOfTexts.all();
        EdgesOfActs.all();
        EdgesOfWords.all();
        EdgesOfScans.all();
        EdgesOfForetold.all();
        EdgesOfAsks.all();
        Edge.end();
    }
}
