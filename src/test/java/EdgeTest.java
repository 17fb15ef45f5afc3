import java.io.IOException;

/** One test for each sentence of the document that names a boundary case, and that none is left out. */
public final class EdgeTest {
    public static void main(String[] args) throws IOException {
        EdgesOfText.all();
        EdgesOfDay.all();
        EdgesOfCases.all();
        EdgesOfFinders.all();
        EdgesOfCode.all();
        Edges.end(System.getProperty("document", "../shared/DOC.md"));
    }
}
