import java.io.IOException;

/** Sentence by sentence of the document: each that names a boundary case has answers of its own. */
public final class EdgeTest {
    public static void main(String[] args) throws IOException {
        Due due = new Due("EdgeTest");
        Edge edge = new Edge(due);
        new EdgeTexts(edge).all();
        new EdgeCandles(edge).all();
        new EdgeRuns(edge).all();
        new EdgeRunCalls(edge).all();
        new EdgeWays(edge).all();
        new EdgeAlongs(edge).all();
        new EdgeOffices(edge).all();
        new EdgeRows(edge).all();
        new EdgeRefusals(edge).all();
        new EdgeOrder(edge).all();
        edge.close();
        due.close();
    }
}
