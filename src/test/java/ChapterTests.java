/** Promises 21 to 28: chapters, and what the censor does to them. */
final class ChapterTests {
    private ChapterTests() {
    }

    static void run(Check check) {
        paragraphsAndNext(check);
        topicAndThrill(check);
        cuts(check);
        isForbidden(check);
        toCome(check);
        wrongFloors(check);
    }

    private static void paragraphsAndNext(Check check) {
        LiftNovel x = new LiftNovel();
        check.same(21, "paragraphs(5)", x.paragraphs(5), 0);
        check.same(22, "nextParagraph(5) of an empty one", x.nextParagraph(5), -1);
        x.addParagraph(5, 1, 1);
        x.addParagraph(5, 2, 2);
        check.same(21, "paragraphs(5)", x.paragraphs(5), 2);
        check.same(21, "paragraphs(4)", x.paragraphs(4), 0);
        check.same(22, "nextParagraph(5)", x.nextParagraph(5), 0);
        x.call(5);
        x.passHours(5);
        check.same(21, "paragraphs(5), printed ones too", x.paragraphs(5), 2);
        check.same(22, "nextParagraph(5), one a stop", x.nextParagraph(5), 1);
        x.turnTopic(2);
        x.call(5);
        x.passHours(1);
        check.same(21, "paragraphs(5), cut ones too", x.paragraphs(5), 2);
        check.same(22, "nextParagraph(5), none left", x.nextParagraph(5), -1);
        x.call(5);
        x.passHours(1);
        check.same(29, "instalments() with a stop on a told chapter", x.instalments(), 1);
        check.same(27, "cuts() with a stop on a told chapter", x.cuts(), 1);
        check.no(15, "isCalled(5) with a stop on a told chapter", x.isCalled(5));
    }

    private static void topicAndThrill(Check check) {
        LiftNovel x = Scenes.told();
        check.same(23, "topicOf(0, 0)", x.topicOf(0, 0), 1);
        check.same(23, "topicOf(0, 1)", x.topicOf(0, 1), 2);
        check.same(23, "topicOf(5, 0)", x.topicOf(5, 0), 3);
        check.same(24, "thrillOf(0, 0)", x.thrillOf(0, 0), 5);
        check.same(24, "thrillOf(0, 1)", x.thrillOf(0, 1), 9);
        check.same(24, "thrillOf(3, 0)", x.thrillOf(3, 0), 7);
        int[][] wrong = {{0, 2}, {0, -1}, {1, 0}, {6, 0}, {-1, 0}, {0, 9}, {11, 0},
            {Integer.MAX_VALUE, 0}, {0, Integer.MAX_VALUE}, {Integer.MIN_VALUE, Integer.MIN_VALUE}};
        for (int[] place : wrong) {
            String words = "(" + place[0] + ", " + place[1] + ")";
            check.noIndex(23, x, "topicOf" + words, () -> x.topicOf(place[0], place[1]));
            check.noIndex(24, x, "thrillOf" + words, () -> x.thrillOf(place[0], place[1]));
        }
    }

    private static void cuts(Check check) {
        LiftNovel x = new LiftNovel();
        x.turnTopic(0);
        x.addParagraph(0, 0, 1);
        x.addParagraph(0, 1, 1);
        x.addParagraph(0, 0, 1);
        x.addParagraph(1, 0, 1);
        for (int stop = 0; stop < 3; stop++) {
            x.call(0);
            x.passHours(1);
            check.same(25, "cutOn(0)", x.cutOn(0), stop == 2 ? 2 : 1);
        }
        check.same(25, "cutOn(1)", x.cutOn(1), 0);
        check.same(27, "cuts()", x.cuts(), 2);
        x.call(1);
        x.passHours(1);
        check.same(25, "cutOn(1)", x.cutOn(1), 1);
        check.same(27, "cuts() of all floors", x.cuts(), 3);
        check.same(29, "instalments()", x.instalments(), 1);
        x.turnTopic(0);
        check.same(27, "cuts() when it is allowed again", x.cuts(), 3);
        check.same(22, "nextParagraph(0) when it is allowed again", x.nextParagraph(0), -1);
    }

    private static void isForbidden(Check check) {
        LiftNovel x = new LiftNovel();
        x.turnTopic(7);
        check.yes(26, "isForbidden(7)", x.isForbidden(7));
        check.no(26, "isForbidden(0)", x.isForbidden(0));
        for (int topic : new int[] {-1, 8, Integer.MIN_VALUE, Integer.MAX_VALUE}) {
            check.noIndex(26, x, "isForbidden(" + topic + ")", () -> x.isForbidden(topic));
        }
    }

    private static void toCome(Check check) {
        LiftNovel x = new LiftNovel();
        x.addParagraph(0, 4, 1);
        x.addParagraph(0, 4, 1);
        x.addParagraph(5, 4, 1);
        x.addParagraph(5, 7, 1);
        check.same(28, "toCome(4)", x.toCome(4), 3);
        check.same(28, "toCome(7)", x.toCome(7), 1);
        check.same(28, "toCome(0)", x.toCome(0), 0);
        x.call(0);
        x.passHours(1);
        check.same(28, "toCome(4), one printed", x.toCome(4), 2);
        x.turnTopic(4);
        check.same(28, "toCome(4), forbidden", x.toCome(4), 2);
        x.call(0);
        x.passHours(1);
        check.same(28, "toCome(4), one cut", x.toCome(4), 1);
        for (int topic : new int[] {-1, 8, Integer.MIN_VALUE, Integer.MAX_VALUE}) {
            check.noIndex(28, x, "toCome(" + topic + ")", () -> x.toCome(topic));
        }
    }

    private static void wrongFloors(Check check) {
        LiftNovel x = Scenes.told();
        for (int floor : new int[] {-1, 6, 11, 12, Integer.MIN_VALUE, Integer.MAX_VALUE}) {
            check.noIndex(21, x, "paragraphs(" + floor + ")", () -> x.paragraphs(floor));
            check.noIndex(22, x, "nextParagraph(" + floor + ")", () -> x.nextParagraph(floor));
            check.noIndex(25, x, "cutOn(" + floor + ")", () -> x.cutOn(floor));
        }
    }
}
