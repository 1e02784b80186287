import java.io.IOException;
import java.nio.file.Files;
import java.nio.file.Path;
import java.util.List;

/** Every sentence of the document that names a boundary: see Edges. */
public final class EdgesTest {
    static final Check check = new Check("EdgesTest");
    private static final Path DOCUMENT = Path.of("..", "shared", "DOC.md");

    public static void main(String[] args) throws IOException {
        Edges edges = all();
        edges.run();
        if (Files.exists(DOCUMENT)) {
            edges.compareWith(DOCUMENT);
        } else {
            System.out.println("EdgesTest: " + DOCUMENT + " is not here, so its sentences are not looked up");
        }
        check.finish();
    }

    private static Edges all() {
        Edges edges = new Edges(check);
        EdgesOfTerms.tell(edges);
        EdgesOfCodes.tell(edges);
        EdgesOfQuestions.tell(edges);
        EdgesOfBlocks.tell(edges);
        EdgesOfDays.tell(edges);
        EdgesOfTexts.tell(edges);
        EdgesOfViews.tell(edges);
        EdgesOfWouldBe.tell(edges);
        return edges;
    }

    /** The names of all sentences; Breaks asks for them. */
    static List<String> names() {
        return all().names();
    }

    /** The names of those whose tests find a fault; Breaks asks for them. */
    static List<String> broken() {
        return all().run();
    }
}
