import java.io.IOException;

/** Each sentence of the document that names a boundary case, with a test of its own. */
public final class BoundaryTest {
    public static void main(String[] args) throws IOException {
        Edges.readDocument();
        DeskEdges.run();
        KeeperEdges.run();
        DatagramEdges.run();
        ServerEdges.run();
        RelayEdges.run();
        ReportEdges.run();
        Edges.close();
        Checks.close();
    }
}
