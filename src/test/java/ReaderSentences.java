/** What the promises 39 to 42 say beside their boundary cases: readers. */
final class ReaderSentences {
    private ReaderSentences() {
    }

    static void run(Sentences all) {
        all.promise(39, "`reader`: a reader", ReaderSentences::tastes);
        all.promise(39, "Returns its taste", ReaderSentences::taste);
        all.promise(40, "`reader`: a reader", ReaderSentences::warmths);
        all.promise(40, "Returns how warm it is", ReaderSentences::warmth);
        all.promise(41, "`reader`: a reader", ReaderSentences::subscribers);
        all.promise(41, "Returns whether it is a subscriber", ReaderSentences::subscriber);
        all.promise(42, "Returns the warmest subscriber", ReaderSentences::warmest);
    }

    /** Eight readers, warm by 1 to 8, with the tastes 7 down to 0. */
    private static LiftNovel eight() {
        LiftNovel x = Scenes.chapter(new int[][] {{2, 9}, {0, 9}});
        for (int reader = 0; reader < 8; reader++) {
            x.addReader(7 - reader, reader + 1);
        }
        return x;
    }

    private static void tastes(Edge e) {
        for (int reader = 0; reader < 8; reader++) {
            e.same("tasteOf(" + reader + ")", eight().tasteOf(reader), 7 - reader);
        }
    }

    /** Whatever it reads, and when it has left. */
    private static void taste(Edge e) {
        LiftNovel x = eight();
        Scenes.stopHere(x, 2);
        e.same("tasteOf(5), who has read what it likes", x.tasteOf(5), 2);
        e.same("tasteOf(0), who has not", x.tasteOf(0), 7);
        x.passHours(60);
        x.begin(2);
        for (int reader = 0; reader < 8; reader++) {
            e.same("tasteOf(" + reader + "), who has left", x.tasteOf(reader), 7 - reader);
        }
    }

    private static void warmths(Edge e) {
        LiftNovel x = eight();
        Scenes.stopHere(x, 1);
        for (int reader = 0; reader < 8; reader++) {
            e.same("warmthOf(" + reader + ")", x.warmthOf(reader), reader + 1 + (reader == 5 ? 9 : 3));
        }
    }

    /** Cooler by nothing that comes, warmer by what comes. */
    private static void warmth(Edge e) {
        LiftNovel x = eight();
        x.passHours(2);
        e.same("warmthOf(7)", x.warmthOf(7), 6);
        Scenes.stopHere(x, 1);
        e.same("warmthOf(7), one of another topic printed", x.warmthOf(7), 9);
        Scenes.stopHere(x, 1);
        e.same("warmthOf(7), one of its taste printed", x.warmthOf(7), 18);
        for (int hour = 1; hour <= 18; hour++) {
            x.passHours(1);
            e.same("warmthOf(7), " + hour + " hours on", x.warmthOf(7), 18 - hour);
        }
    }

    private static void subscribers(Edge e) {
        LiftNovel x = eight();
        for (int hour = 1; hour <= 10; hour++) {
            x.passHours(1);
            for (int reader = 0; reader < 8; reader++) {
                e.same("isSubscriber(" + reader + ")", x.isSubscriber(reader) ? 1 : 0, reader + 2 > hour ? 1 : 0);
            }
        }
    }

    /** Until it leaves; it never comes back. */
    private static void subscriber(Edge e) {
        LiftNovel x = eight();
        for (int hour = 0; hour <= 8; hour++) {
            e.yes("isSubscriber(7), " + hour + " hours on", x.isSubscriber(7));
            x.passHours(1);
        }
        e.no("isSubscriber(7), warm by 8 nine hours ago", x.isSubscriber(7));
        Scenes.stopHere(x, 2);
        e.no("isSubscriber(7), when its taste was printed", x.isSubscriber(7));
        x.begin(6);
        e.no("isSubscriber(7) in another novel", x.isSubscriber(7));
    }

    private static void warmest(Edge e) {
        LiftNovel x = eight();
        e.same("warmest(), warm by 8", x.warmest(), 7);
        Scenes.stopHere(x, 1);
        e.same("warmest(), warm by 15", x.warmest(), 5);
        Scenes.stopHere(x, 1);
        e.same("warmest(), warm by 20", x.warmest(), 7);
        LiftNovel left = new LiftNovel();
        left.addReader(0, 1);
        left.addReader(1, 3);
        left.addReader(2, 2);
        left.passHours(3);
        e.same("warmest(), the others have left or leave", left.warmest(), 1);
    }
}
