/** Goes through the document sentence by sentence; a sentence that no test is for is told too. */
public final class EdgeTest {
    private EdgeTest() { }

    public static void main(String[] args) {
        Edge e = new Edge();
        TextEdges.look(e);
        HourEdges.look(e);
        WouldBeEdges.look(e);
        WayEdges.look(e);
        WasEdges.look(e);
        ToldEdges.look(e);
        e.close("EdgeTest");
    }
}
