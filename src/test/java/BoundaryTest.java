import java.io.IOException;

/** Every sentence of the document: boundaries (too small, too large, empty, full, refused), and what terms mean. */
public final class BoundaryTest {
    private BoundaryTest() {
    }

    public static void main(String[] args) throws IOException {
        RowEdges.all();
        HeapEdges.all();
        ShapeEdges.all();
        DeepEdges.all();
        Refusals.all();
        RowMeanings.all();
        HeapMeanings.all();
        FaceWords.all();
        Sentences.allAreNamed();
        Checks.end("BoundaryTest");
    }
}
