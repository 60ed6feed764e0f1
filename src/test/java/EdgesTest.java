import java.io.IOException;
import java.nio.file.Path;

/** Each sentence of the document has a test of its own under src/test/edges; a sentence without one is a fault, too. */
public final class EdgesTest {
    public static void main(String[] args) throws IOException {
        TermEdges.run();
        ReadingEdges.run();
        ShelfEdges.run();
        FigureEdges.run();
        PartingEdges.run();
        FormEdges.run();
        Edges.compareWith(Path.of("../shared/DOC.md"));
        Edges.finish();
    }
}
