/** Boundary cases of the promises 37 to 42: readers. */
final class ReaderEdges {
    private static final String NO_READER = "Throws `IndexOutOfBoundsException` if there is no such reader";

    private ReaderEdges() {
    }

    static void run(Sentences all) {
        all.promise(37, "Returns how many readers there are", ReaderEdges::readers);
        all.promise(38, "Returns how many of them are subscribers", ReaderEdges::subscribers);
        all.promise(39, NO_READER, e -> e.readersAlone(LiftNovel::tasteOf));
        all.promise(40, "for one who is no subscriber 0", ReaderEdges::warmthOfOneWhoLeft);
        all.promise(40, NO_READER, e -> e.readersAlone(LiftNovel::warmthOf));
        all.promise(41, NO_READER, e -> e.readersAlone(LiftNovel::isSubscriber));
        all.promise(42, "of several the smallest number", ReaderEdges::severalWarmest);
        all.promise(42, "-1 without any", ReaderEdges::noneWarmest);
    }

    private static void readers(Edge e) {
        LiftNovel x = new LiftNovel();
        e.same("readers(), none", x.readers(), 0);
        for (int number = 1; number <= 8; number++) {
            x.addReader(0, 1);
            e.same("readers()", x.readers(), number);
        }
        e.noState(x, "a ninth one", () -> x.addReader(0, 1));
        e.same("readers() behind a refused one", x.readers(), 8);
        x.passHours(2);
        e.same("readers() when all have left", x.readers(), 8);
    }

    private static void subscribers(Edge e) {
        LiftNovel x = new LiftNovel();
        e.same("subscribers(), none", x.subscribers(), 0);
        for (int reader = 0; reader < 8; reader++) {
            x.addReader(0, reader + 1);
        }
        for (int hour = 1; hour <= 10; hour++) {
            e.same("subscribers() ahead of the hour " + hour, x.subscribers(), Math.min(8, 10 - hour));
            x.passHours(1);
        }
        e.same("subscribers() when all have left", x.subscribers(), 0);
    }

    private static void warmthOfOneWhoLeft(Edge e) {
        LiftNovel x = Scenes.chapter(new int[][] {{0, 9}});
        x.addReader(0, 1);
        x.passHours(1);
        e.same("warmthOf(0), a subscriber who is not warm", x.warmthOf(0), 0);
        x.passHours(1);
        e.no("isSubscriber(0)", x.isSubscriber(0));
        e.same("warmthOf(0), no subscriber", x.warmthOf(0), 0);
        Scenes.stopHere(x, 1);
        e.same("warmthOf(0), no subscriber, one of its taste printed", x.warmthOf(0), 0);
        x.passHours(60);
        e.same("warmthOf(0), not below 0", x.warmthOf(0), 0);
        LiftNovel tense = Scenes.stuckOften(30);
        tense.addReader(0, 1);
        tense.passHours(2);
        tense.addParagraph(0, 0, 9);
        Scenes.stopHere(tense, 1);
        e.same("warmthOf(0), no subscriber, with much suspense", tense.warmthOf(0), 0);
    }

    private static void severalWarmest(Edge e) {
        LiftNovel x = new LiftNovel();
        for (int warm : new int[] {4, 20, 19, 20, 20, 1, 1, 20}) {
            x.addReader(0, warm);
        }
        e.same("warmest() of four alike", x.warmest(), 1);
        LiftNovel y = new LiftNovel();
        for (int reader = 0; reader < 8; reader++) {
            y.addReader(0, 1);
        }
        e.same("warmest() of eight alike", y.warmest(), 0);
        y.passHours(1);
        e.same("warmest() of eight who are not warm", y.warmest(), 0);
        LiftNovel last = new LiftNovel();
        for (int reader = 0; reader < 8; reader++) {
            last.addReader(reader, reader == 7 ? 2 : 1);
        }
        e.same("warmest(), the last one", last.warmest(), 7);
        LiftNovel later = new LiftNovel();
        later.addReader(0, 1);
        later.passHours(2);
        later.addReader(0, 1);
        later.addReader(0, 1);
        later.passHours(1);
        e.same("warmest() of two who are not warm, behind one who has left", later.warmest(), 1);
    }

    private static void noneWarmest(Edge e) {
        LiftNovel x = new LiftNovel();
        e.same("warmest() without readers", x.warmest(), -1);
        x.addReader(3, 1);
        x.addReader(4, 2);
        x.passHours(2);
        e.same("warmest(), the other is not warm", x.warmest(), 1);
        x.passHours(1);
        e.same("warmest() without subscribers", x.warmest(), -1);
        x.addReader(5, 1);
        e.same("warmest() with a new one", x.warmest(), 2);
    }
}
