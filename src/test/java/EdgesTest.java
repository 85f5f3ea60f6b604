/** All promises: each sentence of the document that names a boundary case, by the number of its promise. */
public final class EdgesTest {
    public static void main(String[] args) {
        BankEdges.run();
        GoingEdges.run();
        PlansEdges.run();
        ToldEdges.run();
        TruthEdges.run();
        QuietEdges.run();
        Edges.end("EdgesTest");
    }
}
