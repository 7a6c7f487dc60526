/**
 * For each sentence of the document that names a boundary case (too small, too large, empty, full, a wrap-around,
 * a refused call) a test of its own, under that sentence's words.
 */
public final class EdgesTest {
    public static void main(String[] args) {
        Check check = new Check("EdgesTest");
        new TextEdges(check).all();
        new ReadEdges(check).all();
        new SignEdges(check).all();
        new BackEdges(check).all();
        new SheetEdges(check).all();
        new RefusalEdges(check).all();
        check.end();
    }
}
