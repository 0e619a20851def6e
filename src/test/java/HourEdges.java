/** Boundary cases of the course of an hour, as the terms tell it, step by step. */
final class HourEdges {
    private HourEdges() {
    }

    static void run(Sentences all) {
        all.terms(17, "If the lift is stuck, it is so for an hour less", HourEdges::stuckAnHourLess);
        all.terms(20, "the suspense is greater by 1, and by the thrill of the paragraph of the latest instalment "
                + "(0 without one)", HourEdges::suspenseWithAndWithoutOne);
        all.terms(13, "if some floor is called", HourEdges::noFloorCalled);
        all.terms(13, "if it is not that on which it is, it goes one floor", HourEdges::calledWhereItIs);
        all.terms(14, "the way it goes, if a floor farther that way is called", HourEdges::fartherThatWay);
        all.terms(14, "otherwise the way to the nearest called floor, of two as near up", HourEdges::nearest);
        all.terms(18, "its wear is 1 greater", HourEdges::wear);
        all.terms(15, "If the floor on which it is then is called, it stops there", HourEdges::stops);
        all.terms(40, "If nothing was printed in this hour, each subscriber is 1 less warm", HourEdges::cooler);
        all.terms(41, "one who was not warm (0) is no subscriber any more instead", HourEdges::notWarm);
        all.terms(14, "If no floor is called, it stands", HourEdges::stands);
        all.terms(17, "If it is not stuck, and its wear is the limit or more, it is stuck for the limit / 4, and 1, hours, "
                + "and its wear is 0", HourEdges::getsStuck);
        all.terms(12, "The hour is 1 greater", HourEdges::hour);
    }

    /** The longest and the shortest time; called where it is, and elsewhere, it neither stops nor goes. */
    private static void stuckAnHourLess(Edge e) {
        LiftNovel x = Scenes.stuckLong(Scenes.worn(), 5);
        Scenes.callAll(x);
        for (int left = 24; left >= 0; left--) {
            x.passHours(1);
            e.same("stuckFor()", x.stuckFor(), left);
            e.same("liftAt()", x.liftAt(), 5);
            e.same("calls()", x.calls(), 12);
        }
        x.passHours(1);
        e.same("calls(), free", x.calls(), 11);
        e.same("stuckFor(), free", x.stuckFor(), 0);
        LiftNovel once = Scenes.standingOn(0);
        once.setLimit(1);
        once.call(1);
        once.passHours(1);
        e.same("stuckFor(), for an hour", once.stuckFor(), 1);
        once.passHours(1);
        e.same("stuckFor(), for no hour", once.stuckFor(), 0);
    }

    private static void suspenseWithAndWithoutOne(Edge e) {
        LiftNovel made = new LiftNovel();
        made.setLimit(1);
        made.call(1);
        made.passHours(2);
        e.same("suspense() of the first hour stuck", made.suspense(), 1);
        LiftNovel none = Scenes.stuckLong(Scenes.worn(), 11);
        none.passHours(25);
        e.same("suspense() without an instalment, by 25 hours", none.suspense(), 25);
        none.passHours(1);
        e.same("suspense(), not stuck", none.suspense(), 25);
        for (int thrill : new int[] {0, 9}) {
            LiftNovel x = Scenes.standingOn(0);
            x.addParagraph(0, 0, thrill);
            Scenes.stopHere(x, 1);
            x.setLimit(1);
            x.call(1);
            x.passHours(2);
            e.same("suspense() behind the thrill " + thrill, x.suspense(), 1 + thrill);
        }
        LiftNovel tense = Scenes.stuckOften(2);
        tense.addParagraph(0, 0, 3);
        Scenes.stopHere(tense, 1);
        e.same("thrillIn(1), with the suspense", tense.thrillIn(1), 23);
        tense.call(1);
        tense.passHours(2);
        e.same("suspense(), by the paragraph's thrill alone", tense.suspense(), 4);
        LiftNovel cut = Scenes.chapter(new int[][] {{0, 2}, {1, 9}});
        cut.turnTopic(1);
        Scenes.stopHere(cut, 2);
        cut.setLimit(1);
        cut.call(1);
        cut.passHours(2);
        e.same("suspense() behind a cut one", cut.suspense(), 3);
        LiftNovel begun = Scenes.stuckOften(0);
        begun.begin(2);
        begun.call(1);
        begun.passHours(2);
        e.same("suspense(), the instalment was of a novel before", begun.suspense(), 1);
    }

    private static void noFloorCalled(Edge e) {
        LiftNovel x = Scenes.standingOn(4);
        x.passHours(60);
        e.same("liftAt()", x.liftAt(), 4);
        e.same("wear()", x.wear(), 4);
        e.same("goes()", x.goes(), 0);
        x.call(4);
        x.passHours(60);
        e.same("liftAt(), called where it is alone", x.liftAt(), 4);
        e.same("wear(), called where it is alone", x.wear(), 4);
    }

    private static void calledWhereItIs(Edge e) {
        LiftNovel x = Scenes.standingOn(4);
        Scenes.callAll(x);
        x.passHours(1);
        e.same("liftAt(), all floors called", x.liftAt(), 4);
        e.same("wear(), all floors called", x.wear(), 4);
        e.no("isCalled(4)", x.isCalled(4));
        x.passHours(1);
        e.same("liftAt(), one floor on", x.liftAt(), 5);
        x.call(5);
        x.passHours(1);
        e.same("liftAt(), called there on its way", x.liftAt(), 5);
        e.same("goes(), called there on its way", x.goes(), 1);
        LiftNovel far = Scenes.standingOn(0);
        far.call(11);
        for (int floor = 1; floor <= 11; floor++) {
            far.passHours(1);
            e.same("liftAt(), one floor an hour", far.liftAt(), floor);
        }
    }

    private static void fartherThatWay(Edge e) {
        LiftNovel on = Scenes.standingOn(5);
        on.call(11);
        on.passHours(1);
        on.call(5);
        on.call(4);
        on.passHours(1);
        e.same("liftAt(), two nearer behind it", on.liftAt(), 7);
        e.same("goes(), two nearer behind it", on.goes(), 1);
        LiftNovel up = Scenes.standingOn(1);
        up.call(11);
        up.passHours(9);
        up.call(9);
        up.call(0);
        up.passHours(1);
        e.same("liftAt(), the next floor up is called", up.liftAt(), 11);
        up.call(11);
        up.call(10);
        e.same("goes() on the highest floor", up.goes(), 1);
        up.passHours(1);
        e.same("liftAt(), called on the highest floor", up.liftAt(), 11);
        up.passHours(1);
        e.same("liftAt(), none farther up", up.liftAt(), 10);
        e.same("goes(), none farther up", up.goes(), -1);
        LiftNovel down = Scenes.standingOn(10);
        down.setLimit(99);
        down.call(0);
        down.passHours(9);
        down.call(2);
        down.passHours(1);
        e.same("liftAt(), the next floor down is called", down.liftAt(), 0);
        e.same("goes() on the lowest floor", down.goes(), -1);
        down.passHours(1);
        e.same("liftAt(), none farther down", down.liftAt(), 1);
        e.same("goes(), none farther down", down.goes(), 1);
        LiftNovel farther = Scenes.standingOn(6);
        farther.call(4);
        farther.call(0);
        farther.passHours(2);
        farther.call(5);
        farther.passHours(1);
        e.same("liftAt(), one nearer behind it", farther.liftAt(), 3);
        e.same("goes(), one nearer behind it", farther.goes(), -1);
    }

    private static void nearest(Edge e) {
        int[][] placesAndNext = {{5, 4, 6, 6}, {5, 0, 10, 6}, {5, 3, 8, 4}, {5, 2, 7, 6}, {1, 0, 2, 2},
            {10, 9, 11, 11}, {1, 0, 11, 0}, {10, 0, 11, 11}};
        for (int[] row : placesAndNext) {
            LiftNovel x = Scenes.standingOn(row[0]);
            x.call(row[1]);
            x.call(row[2]);
            x.passHours(1);
            e.same("liftAt(), from " + row[0] + " to " + row[1] + " or " + row[2], x.liftAt(), row[3]);
            e.same("goes()", x.goes(), row[3] - row[0]);
        }
        LiftNovel turns = Scenes.standingOn(4);
        turns.call(6);
        turns.call(2);
        turns.call(5);
        turns.passHours(2);
        turns.call(8);
        turns.call(4);
        turns.passHours(1);
        e.same("liftAt(), on its way up, though 4 is as near", turns.liftAt(), 7);
    }

    private static void wear(Edge e) {
        LiftNovel x = Scenes.standingOn(0);
        x.setLimit(99);
        x.call(0);
        x.passHours(1);
        e.same("wear(), it stopped where it was", x.wear(), 0);
        x.call(11);
        for (int floors = 1; floors <= 11; floors++) {
            x.passHours(1);
            e.same("wear(), one floor up", x.wear(), floors);
        }
        x.passHours(5);
        e.same("wear(), standing", x.wear(), 11);
        x.call(0);
        x.passHours(1);
        e.same("wear(), one floor down", x.wear(), 12);
        x.setLimit(12);
        x.passHours(1);
        e.same("wear() in the hour when it gets stuck", x.wear(), 0);
        x.passHours(1);
        e.same("wear() in an hour when it is stuck", x.wear(), 0);
    }

    private static void stops(Edge e) {
        LiftNovel x = Scenes.standingOn(0);
        x.call(1);
        x.call(2);
        x.call(11);
        x.passHours(1);
        e.no("isCalled(1), gone there in this hour", x.isCalled(1));
        e.yes("isCalled(2), a floor on", x.isCalled(2));
        x.passHours(2);
        e.no("isCalled(2), gone by", x.isCalled(2));
        e.same("liftAt()", x.liftAt(), 3);
        e.yes("isCalled(11)", x.isCalled(11));
        x.passHours(8);
        e.no("isCalled(11), the last hour", x.isCalled(11));
        LiftNovel worn = Scenes.standingOn(1);
        worn.addParagraph(2, 0, 0);
        worn.setLimit(2);
        worn.call(2);
        worn.passHours(1);
        e.same("instalments(), it stopped as it got stuck", worn.instalments(), 1);
        e.same("stuckFor()", worn.stuckFor(), 1);
    }

    private static void cooler(Edge e) {
        LiftNovel x = Scenes.chapter(new int[][] {{0, 0}, {1, 0}});
        for (int reader = 0; reader < 8; reader++) {
            x.addReader(2, 20 - reader);
        }
        Scenes.stopHere(x, 1);
        allWarmBy(e, x, "one without thrill was printed", 20);
        x.turnTopic(1);
        Scenes.stopHere(x, 1);
        allWarmBy(e, x, "one was cut", 19);
        Scenes.stopHere(x, 1);
        allWarmBy(e, x, "no next paragraph", 18);
        x.passHours(1);
        allWarmBy(e, x, "not called", 17);
        x.setLimit(4);
        x.call(5);
        x.passHours(4);
        allWarmBy(e, x, "on its way", 13);
        e.same("stuckFor()", x.stuckFor(), 2);
        x.passHours(1);
        allWarmBy(e, x, "stuck", 12);
        x.passHours(1);
        allWarmBy(e, x, "stuck for the last hour", 11);
    }

    private static void allWarmBy(Edge e, LiftNovel x, String what, int first) {
        for (int reader = 0; reader < 8; reader++) {
            e.same("warmthOf(" + reader + "), " + what, x.warmthOf(reader), first - reader);
        }
    }

    private static void notWarm(Edge e) {
        LiftNovel x = Scenes.chapter(new int[][] {{0, 0}, {0, 1}});
        x.addReader(0, 1);
        x.passHours(1);
        e.same("warmthOf(0)", x.warmthOf(0), 0);
        e.yes("isSubscriber(0), it was warm by 1", x.isSubscriber(0));
        Scenes.stopHere(x, 1);
        e.yes("isSubscriber(0), one without thrill was printed", x.isSubscriber(0));
        Scenes.stopHere(x, 1);
        e.same("warmthOf(0), one of thrill 1 was printed", x.warmthOf(0), 1);
        x.passHours(1);
        e.yes("isSubscriber(0), warm by 1 an hour ago", x.isSubscriber(0));
        x.passHours(1);
        e.no("isSubscriber(0), not warm an hour ago", x.isSubscriber(0));
        e.same("warmthOf(0), not below 0", x.warmthOf(0), 0);
    }

    private static void stands(Edge e) {
        LiftNovel x = Scenes.standingOn(0);
        x.call(3);
        x.passHours(2);
        e.same("goes(), a floor ahead", x.goes(), 1);
        x.passHours(1);
        e.same("goes() in the hour of the last stop", x.goes(), 0);
        x.call(3);
        x.call(2);
        x.passHours(1);
        e.same("goes(), a stop where it is, another floor called", x.goes(), 0);
        x.passHours(1);
        e.same("goes() in the hour of the last stop below", x.goes(), 0);
        LiftNovel stuck = Scenes.standingOn(0);
        stuck.setLimit(2);
        stuck.call(3);
        stuck.passHours(2);
        e.same("stuckFor(), a floor ahead", stuck.stuckFor(), 1);
        e.same("goes(), stuck, a floor called", stuck.goes(), 1);
        LiftNovel last = Scenes.standingOn(0);
        last.setLimit(2);
        last.call(2);
        last.passHours(2);
        e.same("stuckFor(), none called", last.stuckFor(), 1);
        e.same("goes(), stuck, none called", last.goes(), 0);
    }

    private static void getsStuck(Edge e) {
        for (int limit = 1; limit <= 11; limit++) {
            LiftNovel x = Scenes.standingOn(0);
            x.setLimit(limit);
            x.call(11);
            x.passHours(limit);
            e.same("stuckFor() with the limit " + limit, x.stuckFor(), limit / 4 + 1);
            e.same("wear() with the limit " + limit, x.wear(), 0);
            LiftNovel less = Scenes.standingOn(limit - 1);
            less.setLimit(limit);
            less.passHours(1);
            e.same("stuckFor() with one less than the limit " + limit, less.stuckFor(), 0);
            e.same("wear() with one less than the limit " + limit, less.wear(), limit - 1);
        }
        LiftNovel more = Scenes.standingOn(11);
        more.setLimit(1);
        more.passHours(1);
        e.same("stuckFor(), 10 more than the limit 1", more.stuckFor(), 1);
        e.same("wear(), 10 more than the limit 1", more.wear(), 0);
        more.passHours(1);
        e.same("stuckFor(), not again", more.stuckFor(), 0);
        LiftNovel stuck = Scenes.stuckLong(Scenes.worn(), 11);
        stuck.setLimit(99);
        e.same("stuckFor(), by the limit 99", stuck.stuckFor(), 25);
        stuck.setLimit(4);
        stuck.passHours(1);
        e.same("stuckFor(), by the limit of then", stuck.stuckFor(), 24);
    }

    private static void hour(Edge e) {
        LiftNovel x = Scenes.chapter(new int[][] {{0, 0}, {1, 0}});
        x.turnTopic(1);
        Scenes.stopHere(x, 1);
        e.same("hours(), one printed", x.hours(), 1);
        Scenes.stopHere(x, 1);
        e.same("hours(), one cut", x.hours(), 2);
        x.passHours(1);
        e.same("hours(), not called", x.hours(), 3);
        x.setLimit(1);
        x.call(2);
        x.passHours(1);
        e.same("hours(), on its way", x.hours(), 4);
        x.passHours(1);
        e.same("hours(), stuck", x.hours(), 5);
        x.passHours(60);
        e.same("hours(), 60 more", x.hours(), 65);
    }
}
