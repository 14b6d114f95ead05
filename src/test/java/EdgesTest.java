import java.io.IOException;
import java.nio.file.Files;
import java.nio.file.Path;

/**
 * Each sentence of the document that names a boundary case, with a test of its own; then the document
 * itself is read, so that no sentence of its Terms and promises is without one.
 */
public final class EdgesTest {
    private static final Path DOCUMENT = Path.of("../shared/DOC.md");

    public static void main(String[] arguments) throws IOException {
        EdgesOfTerms.play();
        EdgesOfCastles.play();
        EdgesOfGates.play();
        EdgesOfEntries.play();
        EdgesOfSights.play();
        EdgesOfTruces.play();
        EdgesOfFigures.play();
        if (Files.isReadable(DOCUMENT)) {
            Edge.compare(DOCUMENT);
        } else {
            System.out.println("there is no " + DOCUMENT + " to compare the sentences with");
        }
        Check.end();
    }
}
