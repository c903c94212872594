import java.io.IOException;
import java.nio.file.Path;

/** Every sentence of the document, quoted, with a test of its own; run from the project's folder. */
public final class EdgesTest {
    public static void main(String[] args) throws IOException {
        Edge.read(Path.of("../shared/DOC.md"));
        EdgesOfTerms.run();
        EdgesOfCells.run();
        EdgesOfNeed.run();
        EdgesOfCost.run();
        EdgesOfSheets.run();
        Edge.end();
        Due.end();
    }
}
