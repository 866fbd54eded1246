/** All promises: each sentence of the document that names a boundary case, by the promise's number and its words. */
public final class EdgesTest {
    public static void main(String[] args) {
        Edge edge = new Edge();
        new SheetEdges(edge).run();
        new TownEdges(edge).run();
        new BankEdges(edge).run();
        new BookEdges(edge).run();
        new NoteEdges(edge).run();
        new TraderEdges(edge).run();
        new WayEdges(edge).run();
        new AskedEdges(edge).run();
        new RefusalEdges(edge).run();
        edge.end();
    }
}
