import java.io.IOException;

/**
 * The document sentence by sentence: each test names its promise and its sentence, and together they
 * name all that the document says.
 */
public final class EdgesTest {
    public static void main(String[] args) throws IOException {
        Edges edges = new Edges(Document.orNull());
        new EdgesOfBoxes(edges).run();
        new EdgesOfWords(edges).run();
        new EdgesOfWeeks(edges).run();
        new EdgesOfTurns(edges).run();
        new EdgesOfLeases(edges).run();
        new EdgesOfTexts(edges).run();
        new EdgesOfPool(edges).run();
        edges.end();
    }
}
