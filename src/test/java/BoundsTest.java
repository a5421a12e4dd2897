import java.io.IOException;
import java.nio.file.Files;
import java.nio.file.Path;

/** Every sentence of the document that names a boundary case, on both sides of its bound. */
public final class BoundsTest {
    private BoundsTest() { }

    public static void main(String[] args) throws IOException {
        Path document = Path.of(System.getenv().getOrDefault("GROWN_DOC", "../shared/DOC.md"));
        Bounds b = new Bounds(Files.exists(document) ? Files.readString(document) : "");
        new BarkBounds(b).ask();
        new LawBounds(b).ask();
        new SeasonBounds(b).ask();
        new CutBounds(b).ask();
        new PlaceBounds(b).ask();
        new TapeBounds(b).ask();
        new KeepBounds(b).ask();
        b.end();
    }
}
