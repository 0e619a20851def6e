/** Boundary cases of the promises 8 to 20: the lift. */
final class LiftEdges {
    private static final String NO_FLOOR = "Throws `IndexOutOfBoundsException` if there is no such floor";

    private LiftEdges() {
    }

    static void run(Sentences all) {
        all.promise(8, "Returns whether it was not called yet", LiftEdges::notCalledYet);
        all.promise(8, NO_FLOOR, e -> e.floorsAlone(LiftNovel::call));
        all.promise(9, "its wear is 0, the suspense stays", LiftEdges::repairStays);
        all.promise(9, "Returns for how many hours it was stuck; 0 if it was not", LiftEdges::repairAnswers);
        all.promise(10, "Returns how many instalments are printed in them", LiftEdges::printedInHours);
        all.promise(10, "Throws `IllegalArgumentException` if hours is not 1 to 60", LiftEdges::hoursOutside);
        all.promise(11, "Returns how many floors there are", LiftEdges::floors);
        all.promise(12, "Returns how many hours went by", LiftEdges::hours);
        all.promise(13, "Returns the floor on which the lift is", LiftEdges::lowestAndHighest);
        all.promise(14, "Returns 1 if it goes up, -1 if down, 0 if it stands", LiftEdges::goes);
        all.promise(15, NO_FLOOR, e -> e.floorsAlone(LiftNovel::isCalled));
        all.promise(16, "Returns how many floors are called", LiftEdges::calls);
        all.promise(17, "Returns for how many hours the lift is stuck; 0 if it is not", LiftEdges::stuckFor);
        all.promise(18, "Returns its wear", LiftEdges::wear);
        all.promise(19, "Returns the limit", LiftEdges::limit);
        all.promise(20, "Returns the suspense", LiftEdges::suspense);
    }

    private static void notCalledYet(Edge e) {
        LiftNovel x = Scenes.standingOn(0);
        for (int floor = 0; floor < 12; floor++) {
            e.yes("call(" + floor + ")", x.call(floor));
            e.no("call(" + floor + ") again", x.call(floor));
        }
        x.passHours(1);
        e.yes("call(0) when it has stopped there", x.call(0));
        e.no("call(11), called since", x.call(11));
        x.begin(12);
        e.yes("call(11) in another novel", x.call(11));
    }

    private static void repairStays(Edge e) {
        LiftNovel x = Scenes.standingOn(0);
        x.setLimit(9);
        x.call(11);
        x.passHours(8);
        e.same("wear() ahead of it", x.wear(), 8);
        x.repair();
        e.same("wear()", x.wear(), 0);
        e.same("liftAt()", x.liftAt(), 8);
        x.call(0);
        x.passHours(8);
        e.same("wear() eight floors from there", x.wear(), 8);
        e.same("stuckFor() eight floors from there", x.stuckFor(), 0);
        LiftNovel tense = Scenes.stuckOften(1);
        tense.call(0);
        tense.passHours(1);
        e.same("stuckFor() ahead of it", tense.stuckFor(), 1);
        tense.repair();
        e.same("suspense()", tense.suspense(), 10);
        e.same("stuckFor()", tense.stuckFor(), 0);
        tense.call(1);
        tense.passHours(1);
        e.same("liftAt() an hour on, free", tense.liftAt(), 1);
        e.same("suspense() an hour on, free", tense.suspense(), 10);
    }

    private static void repairAnswers(Edge e) {
        e.same("repair() of a new one", new LiftNovel().repair(), 0);
        e.same("repair() of one that is worn alone", Scenes.worn().repair(), 0);
        LiftNovel x = Scenes.stuckLong(Scenes.worn(), 11);
        e.same("repair(), stuck by the limit 99", x.repair(), 25);
        e.same("repair() again", x.repair(), 0);
        LiftNovel last = Scenes.stuckLong(Scenes.worn(), 11);
        last.passHours(24);
        e.same("repair(), stuck for an hour more", last.repair(), 1);
        LiftNovel free = Scenes.stuckLong(Scenes.worn(), 11);
        free.passHours(25);
        e.same("repair(), stuck no more", free.repair(), 0);
    }

    private static void printedInHours(Edge e) {
        e.same("passHours(60) without paragraphs", new LiftNovel().passHours(60), 0);
        LiftNovel last = Scenes.sixtyHoursAhead();
        last.addParagraph(11, 0, 0);
        e.same("passHours(60), printed in the last one", last.passHours(60), 1);
        LiftNovel short59 = Scenes.sixtyHoursAhead();
        short59.addParagraph(11, 0, 0);
        e.same("passHours(59), printed in the next one", short59.passHours(59), 0);
        e.same("passHours(1), printed in it", short59.passHours(1), 1);
        e.same("passHours(60), printed ahead of them", short59.passHours(60), 0);
        LiftNovel x = Scenes.full();
        Scenes.callAll(x);
        e.same("passHours(60), all floors called", x.passHours(60), 12);
        e.same("passHours(60), no floor called", x.passHours(60), 0);
    }

    private static void hoursOutside(Edge e) {
        LiftNovel x = Scenes.busy();
        e.argumentOutside(x, 1, 60, hours -> x.passHours(hours));
        int before = x.hours();
        x.passHours(1);
        e.same("hours() behind passHours(1)", x.hours(), before + 1);
        x.passHours(60);
        e.same("hours() behind passHours(60)", x.hours(), before + 61);
    }

    private static void floors(Edge e) {
        LiftNovel x = new LiftNovel();
        e.same("floors() at first", x.floors(), 6);
        x.begin(2);
        e.same("floors(), the fewest", x.floors(), 2);
        x.begin(12);
        e.same("floors(), the most", x.floors(), 12);
        e.noArgument(x, "begin(13)", () -> x.begin(13));
        e.same("floors() behind a refused begin()", x.floors(), 12);
    }

    private static void hours(Edge e) {
        LiftNovel x = new LiftNovel();
        e.same("hours() at first", x.hours(), 0);
        for (int call = 1; call <= 500; call++) {
            x.passHours(60);
        }
        e.same("hours(), as many as 500 calls let go by", x.hours(), 30000);
    }

    private static void lowestAndHighest(Edge e) {
        LiftNovel x = Scenes.standingOn(11);
        x.setLimit(99);
        e.same("liftAt(), the highest", x.liftAt(), 11);
        Scenes.stopHere(x, 3);
        e.same("liftAt(), no farther", x.liftAt(), 11);
        x.call(0);
        x.passHours(11);
        e.same("liftAt(), the lowest", x.liftAt(), 0);
        x.passHours(60);
        e.same("liftAt(), no farther", x.liftAt(), 0);
    }

    private static void goes(Edge e) {
        LiftNovel x = Scenes.standingOn(0);
        x.setLimit(99);
        e.same("goes(), it stands", x.goes(), 0);
        x.call(11);
        e.same("goes(), called, it stands still", x.goes(), 0);
        x.passHours(10);
        e.same("goes() up", x.goes(), 1);
        x.call(0);
        x.passHours(2);
        e.same("goes() down", x.goes(), -1);
        x.passHours(9);
        e.same("goes(), a floor ahead of the lowest", x.goes(), -1);
        x.passHours(1);
        e.same("goes(), it stands again", x.goes(), 0);
    }

    private static void calls(Edge e) {
        LiftNovel x = Scenes.standingOn(0);
        e.same("calls(), none", x.calls(), 0);
        Scenes.callAll(x);
        e.same("calls(), all", x.calls(), 12);
        Scenes.callAll(x);
        e.same("calls(), all once more", x.calls(), 12);
        x.passHours(12);
        e.same("calls() when all were served", x.calls(), 0);
    }

    private static void stuckFor(Edge e) {
        e.same("stuckFor() of a new one", new LiftNovel().stuckFor(), 0);
        e.same("stuckFor() with the greatest wear", Scenes.worn().stuckFor(), 0);
        LiftNovel x = Scenes.stuckLong(Scenes.worn(), 11);
        for (int hours = 25; hours >= 0; hours--) {
            e.same("stuckFor()", x.stuckFor(), hours);
            x.passHours(1);
        }
        e.same("stuckFor(), not below 0", x.stuckFor(), 0);
    }

    private static void wear(Edge e) {
        e.same("wear() at first", new LiftNovel().wear(), 0);
        LiftNovel x = Scenes.worn();
        x.call(11);
        x.passHours(10);
        e.same("wear(), the greatest", x.wear(), 98);
        x.passHours(1);
        e.same("wear() of one that got stuck", x.wear(), 0);
        x.passHours(60);
        e.same("wear() of one that stood", x.wear(), 0);
    }

    private static void limit(Edge e) {
        LiftNovel x = new LiftNovel();
        e.same("limit() at first", x.limit(), 20);
        x.setLimit(1);
        e.same("limit(), the least", x.limit(), 1);
        x.setLimit(99);
        e.same("limit(), the most", x.limit(), 99);
        e.noArgument(x, "setLimit(0)", () -> x.setLimit(0));
        e.same("limit() behind a refused one", x.limit(), 99);
    }

    /** As much suspense as hundreds of calls can make is still told as it is. */
    private static void suspense(Edge e) {
        e.same("suspense() at first", new LiftNovel().suspense(), 0);
        LiftNovel x = Scenes.standingOn(0);
        x.addParagraph(0, 0, 9);
        Scenes.stopHere(x, 1);
        x.setLimit(1);
        for (int ride = 1; ride <= 240; ride++) {
            x.call(ride % 2 == 0 ? 0 : 11);
            x.passHours(22);
        }
        e.same("suspense(), 2640 hours stuck, 10 each", x.suspense(), 26400);
    }
}
