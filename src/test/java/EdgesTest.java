import java.io.IOException;
import java.nio.file.Files;
import java.nio.file.Path;

/** Every sentence of the document has a test of its own at its edges. */
public final class EdgesTest {
    private static final Check CHECK = new Check("EdgesTest");

    public static void main(String[] args) throws IOException {
        Sentences doc = new Sentences(CHECK);
        new NumbersEdges(doc).run();
        new UnchangedEdges(doc).run();
        new PapersEdges(doc).run();
        new CustomsEdges(doc).run();
        new CountingEdges(doc).run();
        new ClaimsEdges(doc).run();
        new QuarrelEdges(doc).run();
        new OwedFilesEdges(doc).run();
        Path document = Path.of(args.length > 0 ? args[0] : ".", "../shared/DOC.md");
        if (Files.isReadable(document)) {
            doc.compareWith(document);
        } else {
            System.out.println("EdgesTest: " + document + " is not there; its words were not compared");
        }
        CHECK.end();
    }
}
