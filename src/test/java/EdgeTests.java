import java.io.IOException;

/** A test of its own for each sentence of the document that names a boundary case; and none is left out. */
final class EdgeTests {
    private EdgeTests() {
    }

    static void run(Check check, String document) throws IOException {
        Sentences all = new Sentences(check, Document.read(document));
        TermsEdges.run(all);
        HourEdges.run(all);
        RefusalEdges.run(all);
        HouseEdges.run(all);
        LiftEdges.run(all);
        ChapterEdges.run(all);
        InstalmentEdges.run(all);
        ReaderEdges.run(all);
        MirrorEdges.run(all);
        ForesightEdges.run(all);
        all.everyBoundaryCaseHasATest();
        System.out.println("tests of a sentence that names a boundary case: " + all.count());
    }
}
