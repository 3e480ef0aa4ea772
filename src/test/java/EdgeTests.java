import java.io.IOException;
import java.nio.charset.StandardCharsets;
import java.nio.file.Files;
import java.nio.file.Path;

/** The boundary cases that the document's sentences name, promise by promise. */
public final class EdgeTests {
    private EdgeTests() {
    }

    public static void main(String[] args) throws IOException {
        EdgesOfTerms.all();
        EdgesOfTexts.all();
        EdgesOfTown.all();
        EdgesOfOpening.all();
        EdgesOfWalks.all();
        EdgesOfHost.all();
        String document = Files.readString(Path.of(args[0]), StandardCharsets.UTF_8);
        Due.test("each test's sentence stands in the document", () -> Edges.quotesStandIn(document));
        Due.close();
    }
}
