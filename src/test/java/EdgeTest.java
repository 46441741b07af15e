/** All promises and terms: one test for each sentence of the document, at the bounds that it names. */
public final class EdgeTest {
    public static void main(String[] args) {
        RightEdges.run();
        MachineEdges.run();
        RunEdges.run();
        NeedEdges.run();
        GivingEdges.run();
        TermEdges.run();
        ExceptionEdges.run();
        Edges.endWith(Document.sentences());
        Check.end();
    }
}
