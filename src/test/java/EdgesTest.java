import java.io.IOException;

/**
 * The edges that the document names, promise by promise and sentence by sentence: the last value that is
 * taken and the first that is not; of a call that is refused its answer, and that all is as it was.
 * With an argument the document is printed without what some test quotes.
 */
public final class EdgesTest {
    public static void main(String[] args) throws IOException {
        Edges e = new Edges();
        new TextEdges(e).all();
        new YearEdges(e).all();
        new AskEdges(e).all();
        e.close("EdgesTest", args.length > 0);
    }
}
