/**
 * Every sentence of the document that names an edge (too small, too large, empty, full, a wrap-around, a refused call)
 * has tests of its own here; a sentence that none of them quotes is told as a fault.
 */
final class EdgesTest {
    public static void main(String[] args) {
        TermsEdges.all();
        FluesEdges.all();
        SaidEdges.all();
        BrushesEdges.all();
        BestEdges.all();
        TextEdges.all();
        SheetsEdges.all();
        ImagesEdges.all();
        Edges.end();
    }
}
