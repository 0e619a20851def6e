/** All tests of the project; ends with exit code 1 if something did not hold. */
public final class ProjectTests {
    private ProjectTests() {
    }

    public static void main(String[] args) {
        Check check = new Check();
        FaceTests.run(check);
        HouseTests.run(check);
        LiftTests.run(check);
        ChapterTests.run(check);
        InstalmentTests.run(check);
        ReaderTests.run(check);
        MirrorTests.run(check);
        ForesightTests.run(check);
        DigestTests.run(check);
        check.everyPromiseFrom(1, 55);
        ModelTests.run(check);
        System.out.println("checks of the project: " + check.passed() + " held, " + check.failed() + " did not");
        if (check.failed() != 0) {
            System.exit(1);
        }
    }
}
