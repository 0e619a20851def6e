/** What the terms say of exceptions: nothing is changed, and the one that is named first is thrown. */
final class RefusalEdges {
    private static final String CHANGES_NOTHING = "A method that throws an exception changes nothing";
    private static final String NAMED_FIRST = "If several exceptions apply, the one that is named first is thrown";

    /** A call that is refused. */
    private interface Call {
        void on(LiftNovel x);
    }

    private RefusalEdges() {
    }

    static void run(Sentences all) {
        house(all);
        lift(all);
        chapters(all);
        told(all);
        foresight(all);
        all.terms(3, NAMED_FIRST, RefusalEdges::paragraphsFirst);
        all.terms(6, NAMED_FIRST, RefusalEdges::readersFirst);
        all.terms(7, NAMED_FIRST, RefusalEdges::mirrorsFirst);
    }

    private static void house(Sentences all) {
        refused(all, 2, x -> x.begin(1), x -> x.begin(13));
        refused(all, 3, x -> x.addParagraph(6, 0, 0), x -> x.addParagraph(0, 8, 0), x -> x.addParagraph(0, 0, 10),
                x -> x.addParagraph(4, 0, 0));
        refused(all, 4, x -> x.turnTopic(-1), x -> x.turnTopic(8));
        refused(all, 5, x -> x.setLimit(0), x -> x.setLimit(100));
        refused(all, 6, x -> x.addReader(8, 1), x -> x.addReader(0, 0), x -> x.addReader(0, 21), x -> x.addReader(0, 1));
        refused(all, 7, x -> x.addMirror(8, 0), x -> x.addMirror(0, 8), x -> x.addMirror(3, 3), x -> x.addMirror(0, 1));
    }

    private static void lift(Sentences all) {
        refused(all, 8, x -> x.call(-1), x -> x.call(6));
        refused(all, 10, x -> x.passHours(0), x -> x.passHours(61));
        refused(all, 15, x -> x.isCalled(-1), x -> x.isCalled(6));
    }

    private static void chapters(Sentences all) {
        refused(all, 21, x -> x.paragraphs(-1), x -> x.paragraphs(6));
        refused(all, 22, x -> x.nextParagraph(-1), x -> x.nextParagraph(6));
        refused(all, 23, x -> x.topicOf(6, 0), x -> x.topicOf(4, 9), x -> x.topicOf(4, -1));
        refused(all, 24, x -> x.thrillOf(6, 0), x -> x.thrillOf(4, 9), x -> x.thrillOf(4, -1));
        refused(all, 25, x -> x.cutOn(-1), x -> x.cutOn(6));
        refused(all, 26, x -> x.isForbidden(-1), x -> x.isForbidden(8));
        refused(all, 28, x -> x.toCome(-1), x -> x.toCome(8));
    }

    private static void told(Sentences all) {
        refused(all, 30, x -> x.floorIn(-1), x -> x.floorIn(2));
        refused(all, 31, x -> x.paragraphIn(-1), x -> x.paragraphIn(2));
        refused(all, 32, x -> x.thrillIn(-1), x -> x.thrillIn(2));
        refused(all, 33, x -> x.hourIn(-1), x -> x.hourIn(2));
        refused(all, 39, x -> x.tasteOf(-1), x -> x.tasteOf(8));
        refused(all, 40, x -> x.warmthOf(-1), x -> x.warmthOf(8));
        refused(all, 41, x -> x.isSubscriber(-1), x -> x.isSubscriber(8));
        refused(all, 44, x -> x.grade(4, 0), x -> x.grade(-1, 0), x -> x.grade(0, 2), x -> x.grade(0, -1));
        refused(all, 45, x -> x.gradesBy(-1), x -> x.gradesBy(4));
        refused(all, 46, x -> x.favouriteOf(-1), x -> x.favouriteOf(4));
    }

    private static void foresight(Sentences all) {
        refused(all, 48, x -> x.hoursUntilStop(-1), x -> x.hoursUntilStop(6));
        refused(all, 50, x -> x.printedIn(0), x -> x.printedIn(41));
        refused(all, 51, x -> x.subscribersIn(0), x -> x.subscribersIn(41));
        refused(all, 52, x -> x.bestToCall(0), x -> x.bestToCall(41));
        refused(all, 53, x -> x.bestToAllow(0), x -> x.bestToAllow(41));
    }

    private static void refused(Sentences all, int promise, Call... calls) {
        all.terms(promise, CHANGES_NOTHING, e -> changesNothing(e, calls));
    }

    /** All answers are as they were, and what follows is as for an object of which nothing refused was asked. */
    private static void changesNothing(Edge e, Call... calls) {
        LiftNovel x = Scenes.busy();
        LiftNovel unasked = Scenes.busy();
        for (int i = 0; i < calls.length; i++) {
            e.yes("the call " + i + " is refused", isRefused(x, calls[i]));
            e.same("all answers behind the call " + i, Snapshot.of(x), Snapshot.of(unasked));
        }
        x.passHours(20);
        unasked.passHours(20);
        e.same("all answers 20 hours on", Snapshot.of(x), Snapshot.of(unasked));
    }

    private static boolean isRefused(LiftNovel x, Call call) {
        try {
            call.on(x);
            return false;
        } catch (IndexOutOfBoundsException | IllegalArgumentException | IllegalStateException e) {
            return true;
        }
    }

    /** No such floor, then a wrong topic or thrill, then a full chapter. */
    private static void paragraphsFirst(Edge e) {
        LiftNovel x = Scenes.full();
        e.noIndex(x, "no such floor, a wrong topic and thrill", () -> x.addParagraph(12, 8, 10));
        e.noIndex(x, "no such floor, a wrong topic", () -> x.addParagraph(-1, -1, 0));
        e.noIndex(x, "no such floor, a wrong thrill", () -> x.addParagraph(12, 0, 10));
        e.noArgument(x, "a wrong topic, a full chapter", () -> x.addParagraph(0, 8, 0));
        e.noArgument(x, "a wrong thrill, a full chapter", () -> x.addParagraph(11, 7, 10));
        e.noArgument(x, "a wrong topic and thrill, a full chapter", () -> x.addParagraph(0, -1, -1));
        e.noState(x, "a full chapter alone", () -> x.addParagraph(0, 7, 9));
    }

    private static void readersFirst(Edge e) {
        LiftNovel x = Scenes.full();
        e.noArgument(x, "a wrong taste, 8 readers", () -> x.addReader(8, 1));
        e.noArgument(x, "a wrong warmth, 8 readers", () -> x.addReader(0, 21));
        e.noArgument(x, "no warmth, 8 readers", () -> x.addReader(7, 0));
        e.noArgument(x, "a wrong taste and warmth, 8 readers", () -> x.addReader(-1, -1));
        e.noState(x, "8 readers alone", () -> x.addReader(7, 20));
    }

    private static void mirrorsFirst(Edge e) {
        LiftNovel x = Scenes.full();
        e.noArgument(x, "a wrong topic liked, 4 mirrors", () -> x.addMirror(8, 0));
        e.noArgument(x, "a wrong topic disliked, 4 mirrors", () -> x.addMirror(0, -1));
        e.noArgument(x, "both the same, 4 mirrors", () -> x.addMirror(5, 5));
        e.noState(x, "4 mirrors alone", () -> x.addMirror(0, 7));
    }
}
