import java.io.IOException;
import java.nio.file.Path;

/** Each sentence of the document that names a boundary case, by a test of its own. */
public final class EdgesTest {
    public static void main(String[] args) throws IOException {
        Sentences document = new Sentences(Path.of(System.getProperty("shared", "../shared"), "DOC.md"));
        Edges[] all = {new PeopleEdges(document), new LawEdges(document), new ShadeEdges(document),
            new ChoiceEdges(document), new BookEdges(document), new TurnEdges(document), new DeedEdges(document),
            new TreeEdges(document), new ShelfEdges(document), new RefusalEdges(document)};
        for (Edges edges : all) {
            edges.run();
        }
        document.end();
    }
}
