/** Every sentence of the document that names a boundary: too small, too large, empty, full, round the end, refused. */
public final class BoundaryTest {
    private BoundaryTest() {
    }

    public static void main(String[] args) {
        RowEdges.all();
        HeapEdges.all();
        ShapeEdges.all();
        DeepEdges.all();
        Refusals.all();
        Sentences.allAreNamed();
        Checks.end("BoundaryTest");
    }
}
