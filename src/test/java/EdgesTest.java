/** A test of its own for each sentence of the document that names a case or an edge. */
public final class EdgesTest {
    public static void main(String[] args) {
        EdgesOfTerms.run();
        EdgesOfExceptions.run();
        EdgesOfBank.run();
        EdgesOfPlans.run();
        EdgesOfSheets.run();
        EdgesOfSums.run();
        Edges.finish("EdgesTest");
    }
}
