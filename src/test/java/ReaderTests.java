/** Promises 37 to 42: readers. */
final class ReaderTests {
    private ReaderTests() {
    }

    static void run(Check check) {
        numbers(check);
        warmer(check);
        warmAtMost(check);
        eightReaders(check);
        cooler(check);
        noWayBack(check);
        coolAtACut(check);
        warmest(check);
        wrongReaders(check);
    }

    private static void numbers(Check check) {
        LiftNovel x = new LiftNovel();
        check.same(37, "readers()", x.readers(), 0);
        x.addReader(5, 1);
        x.addReader(3, 9);
        check.same(37, "readers()", x.readers(), 2);
        check.same(38, "subscribers()", x.subscribers(), 2);
        check.same(39, "tasteOf(0)", x.tasteOf(0), 5);
        check.same(39, "tasteOf(1)", x.tasteOf(1), 3);
        x.passHours(2);
        check.same(37, "readers() when one has left", x.readers(), 2);
        check.same(38, "subscribers() when one has left", x.subscribers(), 1);
        check.same(39, "tasteOf(0) when it has left", x.tasteOf(0), 5);
    }

    private static void warmer(Check check) {
        LiftNovel x = new LiftNovel();
        x.addParagraph(0, 2, 8);
        x.addReader(2, 5);
        x.addReader(3, 5);
        x.call(0);
        x.passHours(1);
        check.same(40, "warmthOf(0), to its taste", x.warmthOf(0), 13);
        check.same(40, "warmthOf(1), by a third", x.warmthOf(1), 7);
        LiftNovel y = new LiftNovel();
        y.setLimit(3);
        y.addParagraph(1, 0, 8);
        y.addParagraph(4, 0, 3);
        y.addReader(0, 9);
        y.addReader(1, 9);
        y.call(1);
        y.call(4);
        y.passHours(5);
        check.same(40, "warmthOf(0), by the thrill with the suspense", y.warmthOf(0), 9 + 8 - 3 + 12);
        check.same(40, "warmthOf(1), by a third of it", y.warmthOf(1), 9 + 2 - 3 + 4);
    }

    private static void warmAtMost(Check check) {
        LiftNovel x = Scenes.longSuspense();
        check.same(40, "warmthOf(0), 99 at most", x.warmthOf(0), 99);
        check.same(40, "warmthOf(1)", x.warmthOf(1), 39);
        x.passHours(1);
        check.same(40, "warmthOf(0) an hour on", x.warmthOf(0), 98);
    }

    private static void eightReaders(Check check) {
        LiftNovel x = new LiftNovel();
        for (int reader = 0; reader < 8; reader++) {
            x.addReader(reader, 10 + reader);
        }
        x.addParagraph(0, 7, 9);
        x.call(0);
        x.passHours(1);
        for (int reader = 0; reader < 8; reader++) {
            int warmer = reader == 7 ? 9 : 3;
            check.same(40, "warmthOf(" + reader + ") of 8", x.warmthOf(reader), 10 + reader + warmer);
        }
        x.passHours(14);
        check.same(38, "subscribers() of 8", x.subscribers(), 7);
        check.same(42, "warmest() of 8", x.warmest(), 7);
    }

    private static void cooler(Check check) {
        LiftNovel x = new LiftNovel();
        x.addReader(0, 2);
        x.passHours(1);
        check.same(40, "warmthOf(0)", x.warmthOf(0), 1);
        x.passHours(1);
        check.same(40, "warmthOf(0)", x.warmthOf(0), 0);
        check.yes(41, "isSubscriber(0), not warm", x.isSubscriber(0));
        check.same(38, "subscribers()", x.subscribers(), 1);
        x.addParagraph(0, 0, 3);
        x.call(0);
        x.passHours(1);
        check.same(40, "warmthOf(0), warm again", x.warmthOf(0), 3);
        x.passHours(3);
        check.yes(41, "isSubscriber(0)", x.isSubscriber(0));
        x.passHours(1);
        check.no(41, "isSubscriber(0), not warm an hour ago", x.isSubscriber(0));
        check.same(40, "warmthOf(0) of no subscriber", x.warmthOf(0), 0);
        check.same(38, "subscribers()", x.subscribers(), 0);
    }

    private static void noWayBack(Check check) {
        LiftNovel x = new LiftNovel();
        x.addReader(0, 1);
        x.passHours(2);
        x.addParagraph(0, 0, 9);
        x.call(0);
        x.passHours(1);
        check.no(41, "isSubscriber(0) when one was printed", x.isSubscriber(0));
        check.same(40, "warmthOf(0), who did not read it", x.warmthOf(0), 0);
        x.begin(3);
        check.no(41, "isSubscriber(0) of another novel", x.isSubscriber(0));
    }

    private static void coolAtACut(Check check) {
        LiftNovel x = new LiftNovel();
        x.addParagraph(0, 0, 9);
        x.addReader(0, 4);
        x.turnTopic(0);
        x.call(0);
        x.passHours(1);
        check.same(40, "warmthOf(0) when it was cut", x.warmthOf(0), 3);
        x.call(0);
        x.passHours(1);
        check.same(40, "warmthOf(0) with nothing to print", x.warmthOf(0), 2);
        LiftNovel stuck = new LiftNovel();
        stuck.addReader(0, 9);
        stuck.setLimit(1);
        stuck.call(2);
        stuck.passHours(2);
        check.same(40, "warmthOf(0) while it is stuck", stuck.warmthOf(0), 7);
    }

    private static void warmest(Check check) {
        LiftNovel x = new LiftNovel();
        check.same(42, "warmest() without any", x.warmest(), -1);
        x.addReader(0, 3);
        check.same(42, "warmest()", x.warmest(), 0);
        x.addReader(1, 5);
        x.addReader(2, 5);
        check.same(42, "warmest(), of two the smaller number", x.warmest(), 1);
        x.addReader(3, 6);
        check.same(42, "warmest()", x.warmest(), 3);
        x.passHours(6);
        check.same(42, "warmest() of one who is not warm", x.warmest(), 3);
        x.passHours(1);
        check.same(42, "warmest() when all have left", x.warmest(), -1);
        LiftNovel y = new LiftNovel();
        y.addReader(0, 1);
        y.addReader(0, 2);
        y.passHours(2);
        check.same(42, "warmest(), one who left as cold", y.warmest(), 1);
    }

    private static void wrongReaders(Check check) {
        LiftNovel x = Scenes.told();
        for (int reader : new int[] {-1, 2, 7, 8, Integer.MIN_VALUE, Integer.MAX_VALUE}) {
            check.noIndex(39, x, "tasteOf(" + reader + ")", () -> x.tasteOf(reader));
            check.noIndex(40, x, "warmthOf(" + reader + ")", () -> x.warmthOf(reader));
            check.noIndex(41, x, "isSubscriber(" + reader + ")", () -> x.isSubscriber(reader));
        }
    }
}
