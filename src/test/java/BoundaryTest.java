import java.io.IOException;

/** Each sentence of the document that names a boundary case, in a test of its own that names it. */
public final class BoundaryTest extends Sentences {

    public static void main(String[] args) throws IOException {
        readDocument(args.length > 0 ? args[0] : "../shared/DOC.md");
        BoundaryStool.all();
        BoundaryText.all();
        BoundaryThought.all();
        BoundaryMaker.all();
        BoundaryBack.all();
        nothingLeftOut();
        finish("BoundaryTest");
    }
}
