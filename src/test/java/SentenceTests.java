import java.io.IOException;
import java.nio.file.Files;
import java.nio.file.Path;

/** A test of its own for each sentence of the document, its boundary cases first; and no word of it is left out. */
final class SentenceTests {
    private SentenceTests() {
    }

    static void run(Check check, String document, String program) throws IOException {
        Sentences all = new Sentences(check, Document.read(document));
        boundaryCases(all);
        otherSentences(all, Document.oneLine(Files.readString(Path.of(program))));
        all.everyWordHasATest();
        System.out.println("sentences of the document, each with a test of its own: " + all.count());
    }

    private static void boundaryCases(Sentences all) {
        TermsEdges.run(all);
        HourEdges.run(all);
        RefusalEdges.run(all);
        HouseEdges.run(all);
        LiftEdges.run(all);
        ChapterEdges.run(all);
        InstalmentEdges.run(all);
        ReaderEdges.run(all);
        MirrorEdges.run(all);
        ForesightEdges.run(all);
    }

    private static void otherSentences(Sentences all, String program) {
        SummarySentences.run(all);
        FaceSentences.run(all, program);
        TermsSentences.run(all);
        HouseSentences.run(all);
        LiftSentences.run(all);
        ChapterSentences.run(all);
        InstalmentSentences.run(all);
        ReaderSentences.run(all);
        MirrorSentences.run(all);
        ForesightSentences.run(all);
        DigestSentences.run(all);
    }
}
