/** Each sentence of the document that names an edge, with what is still good there and what is refused. */
public final class EdgesTest {
    static final Edges EDGES = new Edges("EdgesTest");

    private EdgesTest() {
    }

    public static void main(String[] args) {
        EdgesOfPieces.all();
        EdgesOfCallsOnPieces.all();
        EdgesOfLeads.all();
        EdgesOfSheets.all();
        EdgesOfPaint.all();
        EdgesOfLight.all();
        EdgesOfBars.all();
        EdgesOfHistories.all();
        EdgesOfCalls.all();
        EDGES.allSaid(EdgesTest::promises, EdgesTest::nothingToTest);
        EDGES.end();
    }

    private static boolean promises(String section) {
        return !section.equals("Leadlight") && !section.equals("The public face");
    }

    /** What the document opens with, the order of its calls, and what it does not promise. */
    private static boolean nothingToTest(String sentence) {
        return sentence.startsWith("A window of coloured glass:") || sentence.startsWith("Ahead of the calls")
                || sentence.equals("what later calls answer is free.")
                || sentence.startsWith("How the state is held inside the object is free")
                || sentence.startsWith("Use of one object from several threads")
                || sentence.startsWith("Nothing is promised beyond");
    }
}
