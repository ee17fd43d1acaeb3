/** Each sentence of the document that names a boundary case, by a test of its own. */
public final class EdgeTest {
    private EdgeTest() {
    }

    public static void main(String[] args) {
        Edges edges = new Edges();
        TermsEdges.all(edges);
        WorkEdges.all(edges);
        RangeEdges.all(edges);
        FingerEdges.all(edges);
        LookEdges.all(edges);
        edges.end("EdgeTest");
    }
}
