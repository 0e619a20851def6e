/** Promises 8 to 20: the lift, and the course of an hour as far as it tells of the lift. */
final class LiftTests {
    private LiftTests() {
    }

    static void run(Check check) {
        call(check);
        repairOfAStuckLift(check);
        repairOfAWornLift(check);
        passHours(check);
        passHoursCountsInstalmentsAlone(check);
        stopsWhereItIs(check);
        ofTwoAsNearUp(check);
        nearestFirst(check);
        goesOnTheWayItGoes(check);
        goesOnDown(check);
        asNearBothWays(check);
        stopsOnTheWay(check);
        floorsAndHours(check);
        isCalled(check);
        getsStuck(check);
        stuckHoursByLimit(check);
        stuckWhileStanding(check);
        stuckByTheGreatestLimit(check);
        notStuckAgainAtOnce(check);
        suspenseByTheLatestThrill(check);
        suspenseStaysAtACut(check);
    }

    private static void call(Check check) {
        LiftNovel x = new LiftNovel();
        check.yes(8, "call(5)", x.call(5));
        check.no(8, "call(5) again", x.call(5));
        check.yes(8, "call(0), where it is", x.call(0));
        check.same(8, "calls()", x.calls(), 2);
        check.same(8, "goes() until an hour goes by", x.goes(), 0);
        x.passHours(1);
        check.yes(8, "call(0) when it has stopped there", x.call(0));
        for (int floor : new int[] {-1, 6, 11, Integer.MIN_VALUE, Integer.MAX_VALUE}) {
            check.noIndex(8, x, "call(" + floor + ")", () -> x.call(floor));
        }
        x.begin(12);
        check.yes(8, "call(11) of 12", x.call(11));
        x.begin(2);
        check.noIndex(8, x, "call(2) of 2", () -> x.call(2));
    }

    private static void repairOfAStuckLift(Check check) {
        LiftNovel x = new LiftNovel();
        x.setLimit(8);
        x.begin(12);
        x.call(11);
        x.passHours(9);
        check.same(9, "stuckFor() ahead of it", x.stuckFor(), 2);
        check.same(9, "repair()", x.repair(), 2);
        check.same(9, "stuckFor()", x.stuckFor(), 0);
        check.same(9, "suspense()", x.suspense(), 1);
        check.same(9, "goes()", x.goes(), 1);
        check.same(9, "calls()", x.calls(), 1);
        check.same(9, "hours()", x.hours(), 9);
        x.passHours(1);
        check.same(9, "liftAt()", x.liftAt(), 9);
        check.same(9, "repair() again", x.repair(), 0);
    }

    private static void repairOfAWornLift(Check check) {
        LiftNovel x = Scenes.standingOn(7);
        check.same(9, "wear() ahead of it", x.wear(), 7);
        check.same(9, "repair()", x.repair(), 0);
        check.same(9, "wear()", x.wear(), 0);
        check.same(9, "liftAt()", x.liftAt(), 7);
    }

    private static void passHours(Check check) {
        LiftNovel x = Scenes.called();
        check.same(10, "passHours(60)", x.passHours(60), 3);
        check.same(10, "hours()", x.hours(), 60);
        check.same(10, "passHours(1)", x.passHours(1), 0);
        check.same(10, "hours()", x.hours(), 61);
        for (int hours : new int[] {0, -1, 61, Integer.MIN_VALUE, Integer.MAX_VALUE}) {
            check.noArgument(10, x, "passHours(" + hours + ")", () -> x.passHours(hours));
        }
    }

    private static void passHoursCountsInstalmentsAlone(Check check) {
        LiftNovel x = Scenes.called();
        x.turnTopic(1);
        check.same(10, "passHours(5), two cut", x.passHours(5), 0);
        check.same(10, "passHours(1)", x.passHours(1), 1);
        x.call(0);
        check.same(10, "passHours(5), one more", x.passHours(5), 1);
        check.same(10, "instalments()", x.instalments(), 2);
    }

    private static void stopsWhereItIs(Check check) {
        LiftNovel x = new LiftNovel();
        x.call(0);
        x.call(4);
        x.passHours(1);
        check.same(13, "liftAt() when its own floor is called", x.liftAt(), 0);
        check.same(18, "wear() when it did not go", x.wear(), 0);
        check.same(14, "goes() when it did not go yet", x.goes(), 0);
        check.same(16, "calls()", x.calls(), 1);
        x.passHours(2);
        check.same(13, "liftAt()", x.liftAt(), 2);
        x.call(2);
        x.passHours(1);
        check.same(13, "liftAt() when called on its way", x.liftAt(), 2);
        check.same(14, "goes() as it went", x.goes(), 1);
        check.same(18, "wear()", x.wear(), 2);
        check.no(15, "isCalled(2)", x.isCalled(2));
    }

    private static void ofTwoAsNearUp(Check check) {
        LiftNovel x = Scenes.standingOn(3);
        check.same(14, "goes() of a standing one", x.goes(), 0);
        x.call(1);
        x.call(5);
        x.passHours(1);
        check.same(13, "liftAt(), of two as near up", x.liftAt(), 4);
        check.same(14, "goes()", x.goes(), 1);
        x.passHours(1);
        check.same(14, "goes() with a call behind it", x.goes(), 1);
        x.passHours(1);
        check.same(13, "liftAt() when it has turned", x.liftAt(), 4);
        check.same(14, "goes()", x.goes(), -1);
        x.passHours(3);
        check.same(13, "liftAt()", x.liftAt(), 1);
        check.same(14, "goes() with no call left", x.goes(), 0);
        check.same(18, "wear()", x.wear(), 9);
    }

    private static void nearestFirst(Check check) {
        LiftNovel x = Scenes.standingOn(6);
        x.call(3);
        x.call(10);
        x.passHours(1);
        check.same(13, "liftAt(), to the nearest, below", x.liftAt(), 5);
        x = Scenes.standingOn(6);
        x.call(2);
        x.call(9);
        x.passHours(1);
        check.same(13, "liftAt(), to the nearest, above", x.liftAt(), 7);
        x = Scenes.standingOn(6);
        x.call(0);
        x.passHours(1);
        check.same(13, "liftAt(), to the only one", x.liftAt(), 5);
        check.same(14, "goes()", x.goes(), -1);
    }

    private static void goesOnTheWayItGoes(Check check) {
        LiftNovel x = Scenes.standingOn(3);
        x.call(9);
        x.passHours(2);
        x.call(4);
        x.passHours(1);
        check.same(13, "liftAt(), a nearer one behind it", x.liftAt(), 6);
        x.passHours(3);
        check.same(13, "liftAt()", x.liftAt(), 9);
        check.same(14, "goes() with a call behind it", x.goes(), 1);
        x.call(10);
        x.passHours(1);
        check.same(13, "liftAt(), a new one farther that way", x.liftAt(), 10);
        x.passHours(6);
        check.same(13, "liftAt()", x.liftAt(), 4);
    }

    private static void goesOnDown(Check check) {
        LiftNovel x = Scenes.standingOn(8);
        x.call(2);
        x.passHours(1);
        x.call(8);
        x.passHours(1);
        check.same(13, "liftAt(), a nearer one above it", x.liftAt(), 6);
        check.same(14, "goes()", x.goes(), -1);
        x.passHours(4);
        check.same(13, "liftAt()", x.liftAt(), 2);
        x.call(0);
        x.call(3);
        x.passHours(1);
        check.same(13, "liftAt(), farther that way though 3 is nearer", x.liftAt(), 1);
        x.passHours(1);
        check.same(13, "liftAt()", x.liftAt(), 0);
        x.passHours(1);
        check.same(14, "goes() when it has turned", x.goes(), 1);
        x.passHours(2);
        check.same(13, "liftAt()", x.liftAt(), 3);
        check.yes(15, "isCalled(8)", x.isCalled(8));
    }

    /** Of two as near it goes up, but for one that goes down already; and one that goes up turns if none is above. */
    private static void asNearBothWays(Check check) {
        LiftNovel x = Scenes.standingOn(8);
        x.call(4);
        x.passHours(3);
        x.call(6);
        x.passHours(1);
        check.same(13, "liftAt(), one as near behind it", x.liftAt(), 4);
        x = Scenes.standingOn(3);
        x.call(5);
        x.call(0);
        x.passHours(2);
        check.same(14, "goes(), one far below it", x.goes(), 1);
        x.call(4);
        x.passHours(1);
        check.same(13, "liftAt(), called one below, none above", x.liftAt(), 4);
        x = Scenes.standingOn(3);
        x.call(5);
        x.call(6);
        x.passHours(2);
        x.call(4);
        x.passHours(1);
        check.same(13, "liftAt(), called one below and one above", x.liftAt(), 6);
        x.call(4);
        x.call(3);
        x.passHours(1);
        check.same(13, "liftAt() when it has turned", x.liftAt(), 5);
        check.same(14, "goes() when it has turned", x.goes(), -1);
        x = Scenes.standingOn(5);
        x.call(3);
        x.call(2);
        x.passHours(2);
        x.repair();
        x.call(4);
        check.same(14, "goes() of a repaired one", x.goes(), -1);
        x.passHours(1);
        check.same(13, "liftAt(), the way it went ahead of repair()", x.liftAt(), 2);
        x.passHours(1);
        check.same(14, "goes(), none below", x.goes(), 1);
    }

    private static void stopsOnTheWay(Check check) {
        LiftNovel x = new LiftNovel();
        x.call(1);
        x.call(2);
        x.call(3);
        x.passHours(1);
        check.no(15, "isCalled(1)", x.isCalled(1));
        check.same(16, "calls()", x.calls(), 2);
        x.passHours(1);
        check.same(13, "liftAt()", x.liftAt(), 2);
        check.same(16, "calls()", x.calls(), 1);
        x.passHours(1);
        check.same(16, "calls()", x.calls(), 0);
        check.same(14, "goes()", x.goes(), 0);
    }

    private static void floorsAndHours(Check check) {
        LiftNovel x = new LiftNovel();
        check.same(11, "floors()", x.floors(), 6);
        x.begin(9);
        check.same(11, "floors()", x.floors(), 9);
        x.passHours(7);
        check.same(12, "hours()", x.hours(), 7);
        x.repair();
        x.call(8);
        check.same(12, "hours() behind other calls", x.hours(), 7);
        x.passHours(60);
        check.same(12, "hours()", x.hours(), 67);
    }

    private static void isCalled(Check check) {
        LiftNovel x = new LiftNovel();
        x.call(4);
        check.yes(15, "isCalled(4)", x.isCalled(4));
        check.no(15, "isCalled(3)", x.isCalled(3));
        for (int floor : new int[] {-1, 6, 11, 12, Integer.MIN_VALUE, Integer.MAX_VALUE}) {
            check.noIndex(15, x, "isCalled(" + floor + ")", () -> x.isCalled(floor));
        }
    }

    private static void getsStuck(Check check) {
        LiftNovel x = new LiftNovel();
        check.same(19, "limit()", x.limit(), 20);
        x.setLimit(4);
        check.same(19, "limit()", x.limit(), 4);
        x.call(5);
        x.passHours(3);
        check.same(18, "wear() below the limit", x.wear(), 3);
        check.same(17, "stuckFor() below the limit", x.stuckFor(), 0);
        x.passHours(1);
        check.same(17, "stuckFor() with the limit's wear", x.stuckFor(), 2);
        check.same(18, "wear() of a stuck one", x.wear(), 0);
        check.same(20, "suspense() in the hour when it gets stuck", x.suspense(), 0);
        x.call(4);
        x.passHours(1);
        check.same(17, "stuckFor() an hour on", x.stuckFor(), 1);
        check.same(20, "suspense() without an instalment", x.suspense(), 1);
        check.yes(15, "isCalled(4), where it is stuck", x.isCalled(4));
        check.same(14, "goes() of a stuck one", x.goes(), 1);
        x.passHours(1);
        check.same(17, "stuckFor() two hours on", x.stuckFor(), 0);
        check.same(20, "suspense()", x.suspense(), 2);
        check.same(13, "liftAt()", x.liftAt(), 4);
        x.passHours(1);
        check.no(15, "isCalled(4) when it is free", x.isCalled(4));
        x.passHours(1);
        check.same(13, "liftAt()", x.liftAt(), 5);
        check.same(18, "wear()", x.wear(), 1);
    }

    private static void stuckHoursByLimit(Check check) {
        int[][] hoursByLimit = {{1, 1}, {3, 1}, {4, 2}, {7, 2}, {8, 3}, {11, 3}};
        for (int[] row : hoursByLimit) {
            LiftNovel x = Scenes.standingOn(0);
            x.setLimit(row[0]);
            x.call(11);
            x.passHours(row[0]);
            check.same(17, "stuckFor() with the limit " + row[0], x.stuckFor(), row[1]);
        }
    }

    private static void stuckWhileStanding(Check check) {
        LiftNovel x = Scenes.standingOn(10);
        x.setLimit(5);
        check.same(17, "stuckFor() until an hour goes by", x.stuckFor(), 0);
        check.same(18, "wear() above the limit", x.wear(), 10);
        x.passHours(1);
        check.same(17, "stuckFor() of a standing one", x.stuckFor(), 2);
        check.same(18, "wear()", x.wear(), 0);
    }

    private static void stuckByTheGreatestLimit(Check check) {
        LiftNovel x = Scenes.standingOn(11);
        x.setLimit(99);
        for (int ride = 1; ride <= 7; ride++) {
            x.call(ride % 2 == 0 ? 11 : 0);
            x.passHours(11);
        }
        x.call(11);
        x.passHours(10);
        check.same(18, "wear() one below the limit 99", x.wear(), 98);
        check.same(17, "stuckFor()", x.stuckFor(), 0);
        x.passHours(1);
        check.same(17, "stuckFor() with the limit 99", x.stuckFor(), 25);
        check.same(18, "wear()", x.wear(), 0);
    }

    private static void notStuckAgainAtOnce(Check check) {
        LiftNovel x = new LiftNovel();
        x.setLimit(1);
        x.call(2);
        x.passHours(1);
        check.same(17, "stuckFor()", x.stuckFor(), 1);
        x.passHours(1);
        check.same(17, "stuckFor() when it has waited", x.stuckFor(), 0);
        x.passHours(1);
        check.same(13, "liftAt()", x.liftAt(), 2);
        check.same(14, "goes() of one stuck without calls", x.goes(), 0);
        check.same(17, "stuckFor() in the hour of its last stop", x.stuckFor(), 1);
    }

    private static void suspenseByTheLatestThrill(Check check) {
        LiftNovel x = new LiftNovel();
        x.setLimit(3);
        x.addParagraph(1, 0, 8);
        x.addParagraph(4, 0, 3);
        x.call(1);
        x.call(4);
        x.passHours(4);
        check.same(20, "suspense(), 1 and the latest thrill", x.suspense(), 9);
        x.passHours(1);
        check.same(20, "suspense() when it was printed", x.suspense(), 0);
        check.same(32, "thrillIn(1), with it", x.thrillIn(1), 12);
        x.call(0);
        x.passHours(3);
        check.same(20, "suspense(), by the paragraph's own thrill", x.suspense(), 4);
        x.repair();
        check.same(20, "suspense() of a repaired one", x.suspense(), 4);
        x.passHours(3);
        check.same(20, "suspense() while it is not stuck", x.suspense(), 4);
    }

    private static void suspenseStaysAtACut(Check check) {
        LiftNovel x = new LiftNovel();
        x.setLimit(1);
        x.turnTopic(6);
        x.addParagraph(2, 6, 9);
        x.call(2);
        x.passHours(3);
        check.same(27, "cuts()", x.cuts(), 1);
        check.same(20, "suspense() when it was cut", x.suspense(), 1);
        x.passHours(1);
        check.same(20, "suspense(), a cut one is no instalment", x.suspense(), 2);
    }
}
