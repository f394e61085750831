import java.io.IOException;
import java.nio.file.Path;

/** Each sentence of the document that names a boundary case, one behind another; fails too if one is left untried. */
public final class BoundsTest {
    public static void main(String[] args) throws IOException {
        Bounds b = new Bounds(new Doc(Path.of("../shared/DOC.md")));
        new BoundsOfTerms(b).test();
        new BoundsOfTape(b).test();
        new BoundsOfText(b).test();
        new BoundsOfDance(b).test();
        new BoundsOfBest(b).test();
        new BoundsOfSeen(b).test();
        new BoundsOfSheets(b).test();
        b.close();
    }
}
