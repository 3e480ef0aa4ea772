import java.io.IOException;
import java.nio.charset.StandardCharsets;
import java.nio.file.Files;
import java.nio.file.Path;

/** The document sentence by sentence: the boundary cases that it names, and all else that it says. */
public final class EdgeTests {
    private EdgeTests() {
    }

    public static void main(String[] args) throws IOException {
        EdgesOfTerms.all();
        EdgesOfTexts.all();
        EdgesOfTown.all();
        EdgesOfOpening.all();
        EdgesOfWalks.all();
        EdgesOfHost.all();
        SentencesOfTerms.all();
        SentencesOfCalls.all();
        String document = Files.readString(Path.of(args[0]), StandardCharsets.UTF_8);
        Face.all(document, Files.readString(Path.of(args[1]), StandardCharsets.UTF_8));
        Due.test("each test's sentence stands in the document", () -> Edges.quotesStandIn(document));
        Due.test("each of the document's sentences is a test's", () -> Edges.nothingIsLeftOut(document));
        Due.close();
    }
}
