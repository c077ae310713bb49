import java.io.IOException;

/**
 * Each sentence of the document that names a boundary (too small, too large, empty, full, a wrap-around, a refused
 * call) with a test of its own; Sentences looks whether one was left out.
 */
public final class EdgesTest {
    public static void main(String[] args) throws IOException {
        Sentences s = new Sentences("EdgesTest");
        HourEdges.all(s);
        TextEdges.all(s);
        AskedEdges.all(s);
        ToldEdges.all(s);
        PromiseEdges.all(s);
        BestEdges.all(s);
        TapeEdges.all(s);
        UnchangedEdges.all(s);
        s.end();
    }
}
