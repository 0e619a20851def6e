/** Boundary cases of the promises 21 to 28: chapters. */
final class ChapterEdges {
    private static final String NO_FLOOR = "Throws `IndexOutOfBoundsException` if there is no such floor";
    private static final String NO_PARAGRAPH = NO_FLOOR + ", or no such paragraph";
    private static final String NO_TOPIC = "Throws `IndexOutOfBoundsException` if topic is not 0 to 7";

    /** What is asked of a paragraph on a floor. */
    private interface Ask {
        int of(LiftNovel x, int floor, int paragraph);
    }

    private ChapterEdges() {
    }

    static void run(Sentences all) {
        all.promise(21, "Returns how many paragraphs its chapter has", ChapterEdges::paragraphs);
        all.promise(21, NO_FLOOR, e -> e.floorsAlone(LiftNovel::paragraphs));
        all.promise(22, "-1 if there is none", ChapterEdges::noNext);
        all.promise(22, NO_FLOOR, e -> e.floorsAlone(LiftNovel::nextParagraph));
        all.promise(23, NO_PARAGRAPH, e -> paragraphsAlone(e, LiftNovel::topicOf));
        all.promise(24, NO_PARAGRAPH, e -> paragraphsAlone(e, LiftNovel::thrillOf));
        all.promise(25, "Returns how many of its paragraphs were cut", ChapterEdges::cutOn);
        all.promise(25, NO_FLOOR, e -> e.floorsAlone(LiftNovel::cutOn));
        all.promise(26, NO_TOPIC, e -> e.topicsAlone(LiftNovel::isForbidden));
        all.promise(27, "Returns how many paragraphs were cut in all", ChapterEdges::cuts);
        all.promise(28, "are still to come, forbidden or not", ChapterEdges::toCome);
        all.promise(28, NO_TOPIC, e -> e.topicsAlone(LiftNovel::toCome));
    }

    private static void paragraphs(Edge e) {
        LiftNovel x = Scenes.standingOn(0);
        e.same("paragraphs(11), none", x.paragraphs(11), 0);
        for (int number = 1; number <= 9; number++) {
            x.addParagraph(11, 0, 0);
            e.same("paragraphs(11)", x.paragraphs(11), number);
        }
        e.noState(x, "a tenth one", () -> x.addParagraph(11, 0, 0));
        e.same("paragraphs(11) behind a refused one", x.paragraphs(11), 9);
        e.same("paragraphs(10)", x.paragraphs(10), 0);
    }

    private static void noNext(Edge e) {
        LiftNovel x = new LiftNovel();
        e.same("nextParagraph(0) of an empty chapter", x.nextParagraph(0), -1);
        for (int number = 0; number < 9; number++) {
            x.addParagraph(0, number % 2, 0);
        }
        x.turnTopic(1);
        for (int number = 0; number < 9; number++) {
            e.same("nextParagraph(0)", x.nextParagraph(0), number);
            Scenes.stopHere(x, 1);
        }
        e.same("nextParagraph(0) when all were printed or cut", x.nextParagraph(0), -1);
        Scenes.stopHere(x, 1);
        e.same("nextParagraph(0), a stop more", x.nextParagraph(0), -1);
        LiftNovel cut = Scenes.chapter(new int[][] {{3, 0}});
        cut.turnTopic(3);
        Scenes.stopHere(cut, 1);
        e.same("nextParagraph(0), the only one cut", cut.nextParagraph(0), -1);
        cut.addParagraph(0, 3, 0);
        e.same("nextParagraph(0), one more", cut.nextParagraph(0), 1);
    }

    /** On no floor beside the house, and of no paragraph beside the chapter: an empty, an ordinary and a full one. */
    private static void paragraphsAlone(Edge e, Ask ask) {
        LiftNovel x = Scenes.told();
        e.indexOutside(x, 0, 5, floor -> ask.of(x, floor, 0));
        e.indexOutside(x, 0, -1, paragraph -> ask.of(x, 1, paragraph));
        e.indexOutside(x, 0, 1, paragraph -> ask.of(x, 0, paragraph));
        e.indexOutside(x, 0, 0, paragraph -> ask.of(x, 5, paragraph));
        e.noIndex(x, "neither such a floor nor such a paragraph", () -> ask.of(x, 6, 9));
        LiftNovel full = Scenes.full();
        for (int floor = 0; floor < 12; floor++) {
            int whole = floor;
            e.indexOutside(full, 0, 8, paragraph -> ask.of(full, whole, paragraph));
            e.same("of the last one", ask.of(full, floor, 8), ask.of(Scenes.allTold(), floor, 8));
        }
        full.begin(2);
        e.noIndex(full, "on a floor of a house before", () -> ask.of(full, 2, 0));
        e.noIndex(full, "of a novel before", () -> ask.of(full, 1, 0));
    }

    private static void cutOn(Edge e) {
        LiftNovel x = Scenes.full();
        e.same("cutOn(0), none", x.cutOn(0), 0);
        for (int topic = 0; topic < 8; topic++) {
            x.turnTopic(topic);
        }
        Scenes.stopHere(x, 9);
        e.same("cutOn(0), all", x.cutOn(0), 9);
        Scenes.stopHere(x, 1);
        e.same("cutOn(0), a stop more", x.cutOn(0), 9);
        e.same("cutOn(1)", x.cutOn(1), 0);
        e.same("cutOn(11)", x.cutOn(11), 0);
    }

    private static void cuts(Edge e) {
        LiftNovel x = Scenes.full();
        e.same("cuts(), none", x.cuts(), 0);
        for (int topic = 0; topic < 8; topic++) {
            x.turnTopic(topic);
        }
        for (int round = 0; round < 9; round++) {
            Scenes.callAll(x);
            x.passHours(30);
        }
        e.same("cuts(), all", x.cuts(), 108);
        e.same("instalments()", x.instalments(), 0);
        e.same("cuts() when none was", Scenes.allTold().cuts(), 0);
    }

    private static void toCome(Edge e) {
        LiftNovel none = new LiftNovel();
        e.same("toCome(0), none", none.toCome(0), 0);
        LiftNovel x = Scenes.chapter(new int[][] {{0, 1}, {0, 1}, {7, 1}});
        x.addParagraph(5, 0, 1);
        x.turnTopic(0);
        e.same("toCome(0), forbidden", x.toCome(0), 3);
        e.same("toCome(7), allowed", x.toCome(7), 1);
        Scenes.stopHere(x, 1);
        e.same("toCome(0), one cut", x.toCome(0), 2);
        x.turnTopic(0);
        Scenes.stopHere(x, 1);
        e.same("toCome(0), one printed", x.toCome(0), 1);
        Scenes.stopHere(x, 2);
        e.same("toCome(7), none left", x.toCome(7), 0);
        int all = 0;
        for (int topic = 0; topic < 8; topic++) {
            all += Scenes.full().toCome(topic);
            e.same("toCome(" + topic + ") when all are told", Scenes.allTold().toCome(topic), 0);
        }
        e.same("toCome() of all topics of a full house", all, 108);
    }
}
