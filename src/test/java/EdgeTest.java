import java.io.IOException;

/** Promises 1 to 20: a test of its own for each sentence of the document that names a boundary case. */
public final class EdgeTest {
    public static void main(String[] args) throws IOException {
        Edges edges = new Edges("EdgeTest");
        new MoonEdges(edges).run();
        new CalendarEdges(edges).run();
        new TextEdges(edges).run();
        new MeaningEdges(edges).run();
        edges.finish();
    }
}
