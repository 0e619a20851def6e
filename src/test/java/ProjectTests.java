import java.io.IOException;

/**
 * All tests of the project, with the paths of the document, the program and README.md as arguments; ends with exit
 * code 1 if something did not hold.
 */
public final class ProjectTests {
    private ProjectTests() {
    }

    public static void main(String[] args) throws IOException {
        Check check = new Check();
        SentenceTests.run(check, path(args, 0, "../shared/DOC.md"), path(args, 1, "src/main/java/LiftNovel.java"));
        ReadmeTests.run(check, path(args, 2, "README.md"));
        FaceTests.run(check);
        HouseTests.run(check);
        LiftTests.run(check);
        ChapterTests.run(check);
        InstalmentTests.run(check);
        ReaderTests.run(check);
        MirrorTests.run(check);
        ForesightTests.run(check);
        DigestTests.run(check);
        check.everyPromiseFrom(1, 55);
        ModelTests.run(check);
        System.out.println("checks of the project: " + check.passed() + " held, " + check.failed() + " did not");
        if (check.failed() != 0) {
            System.exit(1);
        }
    }

    private static String path(String[] args, int number, String otherwise) {
        return args.length > number ? args[number] : otherwise;
    }
}
