/** Each sentence of the document that names a boundary, by its own words, with a test of its own. */
public final class EdgesTest {
    static final Due DUE = new Due("EdgesTest");

    public static void main(String[] args) {
        TextEdges.run();
        FormulaEdges.run();
        TableEdges.run();
        ActEdges.run();
        ServingEdges.run();
        PickingEdges.run();
        GridEdges.run();
        SeenEdges.run();
        DUE.everyPromiseHasSentences();
        DUE.finish();
    }

    private EdgesTest() {
    }
}
