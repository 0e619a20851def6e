/** What the promises 8 to 15 say beside their boundary cases: the lift. */
final class LiftSentences {
    private LiftSentences() {
    }

    static void run(Sentences all) {
        all.promise(8, "Calls the lift to a floor", LiftSentences::callsTheLift);
        all.promise(8, "`floor`: the floor", LiftSentences::floorThatIsCalled);
        all.promise(9, "Frees the lift", LiftSentences::freesTheLift);
        all.promise(10, "Lets hours go by", LiftSentences::letsHoursGoBy);
        all.promise(10, "`hours`: how many", LiftSentences::howManyHours);
        all.promise(15, "`floor`: a floor", LiftSentences::floorThatMayBeCalled);
        all.promise(15, "Returns whether it is called", LiftSentences::isCalled);
    }

    /** By the call itself no hour goes by, and the lift stays where it is. */
    private static void callsTheLift(Edge e) {
        LiftNovel x = new LiftNovel();
        x.call(4);
        e.same("liftAt() until an hour goes by", x.liftAt(), 0);
        e.same("hours() until an hour goes by", x.hours(), 0);
        x.passHours(4);
        e.same("liftAt(), called to 4", x.liftAt(), 4);
        x.passHours(4);
        e.same("liftAt(), called no more", x.liftAt(), 4);
        x.call(1);
        x.passHours(3);
        e.same("liftAt(), called to 1", x.liftAt(), 1);
        LiftNovel stuck = Scenes.stuckLong(Scenes.worn(), 11);
        e.yes("call(10) while it is stuck", stuck.call(10));
        stuck.passHours(26);
        e.same("liftAt(), called while it was stuck", stuck.liftAt(), 10);
    }

    private static void floorThatIsCalled(Edge e) {
        for (int called = 0; called < 12; called++) {
            LiftNovel x = Scenes.standingOn(5);
            x.call(called);
            for (int floor = 0; floor < 12; floor++) {
                e.same("isCalled(" + floor + "), " + called + " called", x.isCalled(floor) ? 1 : 0, floor == called ? 1 : 0);
            }
            x.passHours(12);
            e.same("liftAt()", x.liftAt(), called);
        }
    }

    /** With any hours still ahead it stops in the very next one, and is no longer worn. */
    private static void freesTheLift(Edge e) {
        for (int left = 25; left >= 1; left--) {
            LiftNovel x = Scenes.stuckLong(Scenes.worn(), 7);
            x.call(6);
            if (left < 25) {
                x.passHours(25 - left);
            }
            e.same("stuckFor() ahead of it", x.stuckFor(), left);
            x.repair();
            e.same("stuckFor()", x.stuckFor(), 0);
            e.same("hoursUntilStop(6)", x.hoursUntilStop(6), 1);
            x.passHours(1);
            e.same("liftAt() an hour on", x.liftAt(), 6);
        }
    }

    /** All at once, or one by one: it is the same. */
    private static void letsHoursGoBy(Edge e) {
        for (Scenes.Maker maker : Scenes.MAKERS) {
            LiftNovel atOnce = maker.make();
            LiftNovel oneByOne = maker.make();
            int printed = 0;
            for (int hour = 0; hour < 40; hour++) {
                printed += oneByOne.passHours(1);
            }
            e.same("passHours(40)", atOnce.passHours(40), printed);
            e.same("all answers 40 hours on", Snapshot.of(atOnce), Snapshot.of(oneByOne));
        }
    }

    private static void howManyHours(Edge e) {
        for (int hours = 1; hours <= 60; hours++) {
            LiftNovel x = Scenes.busy();
            int before = x.hours();
            x.passHours(hours);
            e.same("hours() by passHours(" + hours + ")", x.hours(), before + hours);
        }
    }

    private static void floorThatMayBeCalled(Edge e) {
        LiftNovel x = Scenes.standingOn(0);
        for (int floor = 0; floor < 12; floor += 3) {
            x.call(floor);
        }
        for (int floor = 0; floor < 12; floor++) {
            e.same("isCalled(" + floor + ")", x.isCalled(floor) ? 1 : 0, floor % 3 == 0 ? 1 : 0);
        }
    }

    private static void isCalled(Edge e) {
        LiftNovel x = Scenes.standingOn(0);
        e.no("isCalled(3), not yet", x.isCalled(3));
        x.call(3);
        x.call(9);
        for (int hour = 1; hour <= 9; hour++) {
            e.same("isCalled(3) ahead of the hour " + hour, x.isCalled(3) ? 1 : 0, hour <= 3 ? 1 : 0);
            e.yes("isCalled(9) ahead of the hour " + hour, x.isCalled(9));
            x.passHours(1);
        }
        e.no("isCalled(9), it stopped there", x.isCalled(9));
    }
}
