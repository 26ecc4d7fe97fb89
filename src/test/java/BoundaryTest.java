import java.io.IOException;

/** Each sentence of the terms and of the promises, with a test that names it. */
public final class BoundaryTest {
    public static void main(String[] args) throws IOException {
        Edges.readDocument();
        DeskEdges.run();
        KeeperEdges.run();
        DatagramEdges.run();
        ServerEdges.run();
        RelayEdges.run();
        ReportEdges.run();
        TermEdges.run();
        Edges.close();
        Checks.close();
    }
}
