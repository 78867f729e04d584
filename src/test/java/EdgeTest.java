/** For each sentence of the document that names a boundary: just at it, and beside it on both sides. */
public final class EdgeTest {
    private EdgeTest() {
    }

    public static void main(String[] args) throws Exception {
        Edge.read();
        TextEdges.all();
        CrossingEdges.all();
        PictureEdges.all();
        RodEdges.all();
        FormEdges.all();
        RowEdges.all();
        Edge.end();
    }
}
