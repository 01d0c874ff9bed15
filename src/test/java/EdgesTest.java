import java.io.IOException;

/** All promises, by the document's single sentences: what is just allowed, what is just not, and what is refused. */
public final class EdgesTest {
    private EdgesTest() {
    }

    public static void main(String[] args) throws IOException {
        Edges edges = new Edges();
        TapeEdges.tell(edges);
        TextEdges.tell(edges);
        PeopleEdges.tell(edges);
        HutEdges.tell(edges);
        RentEdges.tell(edges);
        WaitEdges.tell(edges);
        SaleEdges.tell(edges);
        LiftEdges.tell(edges);
        ShoreEdges.tell(edges);
        RoadEdges.tell(edges);
        PaintEdges.tell(edges);
        ThiefEdges.tell(edges);
        ImageEdges.tell(edges);
        WordsEdges.tell(edges);
        edges.allAreThere();
        Check.close();
    }
}
