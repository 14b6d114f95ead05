import java.io.IOException;
import java.net.URISyntaxException;
import java.nio.file.Files;
import java.nio.file.Path;

/** Folders to write to, beside the compiled tests: what has been compiled there can be written, and .ci/run removes it. */
final class Scratch {
    private Scratch() {
    }

    static Path folder() throws IOException, URISyntaxException {
        Path classes = Path.of(Scratch.class.getProtectionDomain().getCodeSource().getLocation().toURI());
        return Files.createTempDirectory(classes, "scratch");
    }
}
