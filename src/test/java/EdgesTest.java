import java.io.IOException;

/** Each sentence of the document that names a boundary case, with a test of its own. */
public final class EdgesTest {
    public static void main(String[] args) throws IOException {
        Sentences sentences = new Sentences();
        new TapeEdges(sentences).ask();
        new TextEdges(sentences).ask();
        new FaultEdges(sentences).ask();
        new WorkEdges(sentences).ask();
        new NumberEdges(sentences).ask();
        new OrderEdges(sentences).ask();
        new CallEdges(sentences).ask();
        new ChoiceEdges(sentences).ask();
        new RestEdges(sentences).ask();
        sentences.end();
    }
}
