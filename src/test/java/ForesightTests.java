/** Promises 48 to 54: what would be, and the mean warmth. */
final class ForesightTests {
    private ForesightTests() {
    }

    static void run(Check check) {
        hoursUntilStop(check);
        hoursUntilStopFarAhead(check);
        hoursUntilStuck(check);
        hoursUntilStuckFarAhead(check);
        printedIn(check);
        subscribersIn(check);
        subscribersInWithSuspense(check);
        bestToCall(check);
        bestToCallByAllSubscribers(check);
        bestToAllow(check);
        bestToAllowOfSeveral(check);
        wrongHours(check);
        changesNothing(check);
        meanWarmth(check);
    }

    private static void hoursUntilStop(Check check) {
        LiftNovel x = Scenes.called();
        int[] due = {1, -1, -1, 4, -1, 6};
        for (int floor = 0; floor < 6; floor++) {
            check.same(48, "hoursUntilStop(" + floor + ")", x.hoursUntilStop(floor), due[floor]);
        }
        x.passHours(3);
        check.same(48, "hoursUntilStop(3) three hours on", x.hoursUntilStop(3), 1);
        check.same(48, "hoursUntilStop(0), stopped there already", x.hoursUntilStop(0), -1);
        LiftNovel y = new LiftNovel();
        y.setLimit(3);
        y.call(1);
        y.call(4);
        y.passHours(3);
        check.same(48, "hoursUntilStop(4) of a stuck one", y.hoursUntilStop(4), 2);
        for (int floor : new int[] {-1, 6, 11, 12, Integer.MIN_VALUE, Integer.MAX_VALUE}) {
            check.noIndex(48, y, "hoursUntilStop(" + floor + ")", () -> y.hoursUntilStop(floor));
        }
    }

    /** The longest that a stop can be ahead: stuck for 25 hours, then a stop, up 10 floors and down 11, stuck at each. */
    private static void hoursUntilStopFarAhead(Check check) {
        LiftNovel x = Scenes.standingOn(11);
        x.setLimit(99);
        for (int ride = 1; ride <= 7; ride++) {
            x.call(ride % 2 == 0 ? 11 : 0);
            x.passHours(11);
        }
        x.call(5);
        x.passHours(5);
        x.call(0);
        x.passHours(5);
        x.call(11);
        x.passHours(1);
        check.same(48, "stuckFor() ahead of it", x.stuckFor(), 25);
        x.call(0);
        x.call(1);
        x.setLimit(1);
        check.same(48, "hoursUntilStop(1), where it is stuck", x.hoursUntilStop(1), 26);
        check.same(48, "hoursUntilStop(11)", x.hoursUntilStop(11), 45);
        check.same(48, "hoursUntilStop(0)", x.hoursUntilStop(0), 67);
        check.same(48, "hoursUntilStop(2), not called", x.hoursUntilStop(2), -1);
        x.passHours(60);
        check.same(48, "hoursUntilStop(0)", x.hoursUntilStop(0), 7);
        x.passHours(6);
        check.yes(15, "isCalled(0)", x.isCalled(0));
        x.passHours(1);
        check.no(15, "isCalled(0)", x.isCalled(0));
    }

    private static void hoursUntilStuck(Check check) {
        LiftNovel x = new LiftNovel();
        check.same(49, "hoursUntilStuck() of a standing one", x.hoursUntilStuck(), -1);
        x.setLimit(3);
        x.call(5);
        check.same(49, "hoursUntilStuck()", x.hoursUntilStuck(), 3);
        x.passHours(2);
        check.same(49, "hoursUntilStuck()", x.hoursUntilStuck(), 1);
        x.passHours(1);
        check.same(49, "hoursUntilStuck() of a stuck one", x.hoursUntilStuck(), 0);
        x.passHours(1);
        check.same(49, "hoursUntilStuck(), two floors to go", x.hoursUntilStuck(), -1);
        x.setLimit(2);
        check.same(49, "hoursUntilStuck() with a limit of 2", x.hoursUntilStuck(), 2);
        LiftNovel worn = Scenes.standingOn(9);
        worn.setLimit(9);
        check.same(49, "hoursUntilStuck() of a worn, standing one", worn.hoursUntilStuck(), 1);
        worn.setLimit(10);
        check.same(49, "hoursUntilStuck() of one less worn", worn.hoursUntilStuck(), -1);
    }

    /** The longest that it can be ahead: a stop where the lift is, then up 10 floors and down 11. */
    private static void hoursUntilStuckFarAhead(Check check) {
        LiftNovel x = Scenes.standingOn(0);
        x.call(11);
        x.passHours(1);
        x.call(0);
        x.call(1);
        for (int limit = 2; limit <= 25; limit++) {
            x.setLimit(limit);
            check.same(49, "hoursUntilStuck() with the limit " + limit, x.hoursUntilStuck(), limit <= 22 ? limit : -1);
        }
    }

    private static void printedIn(Check check) {
        LiftNovel x = Scenes.called();
        int[] due = {1, 1, 1, 2, 2, 3, 3};
        for (int hours = 1; hours <= due.length; hours++) {
            check.same(50, "printedIn(" + hours + ")", x.printedIn(hours), due[hours - 1]);
        }
        check.same(50, "printedIn(40)", x.printedIn(40), 3);
        x.turnTopic(1);
        check.same(50, "printedIn(40), two cut", x.printedIn(40), 1);
        x.passHours(6);
        check.same(50, "printedIn(40), those to come alone", x.printedIn(40), 0);
    }

    private static void subscribersIn(Check check) {
        LiftNovel x = new LiftNovel();
        x.addReader(0, 1);
        x.addReader(0, 3);
        x.addReader(1, 20);
        check.same(51, "subscribersIn(1)", x.subscribersIn(1), 3);
        check.same(51, "subscribersIn(2)", x.subscribersIn(2), 2);
        check.same(51, "subscribersIn(3)", x.subscribersIn(3), 2);
        check.same(51, "subscribersIn(4)", x.subscribersIn(4), 1);
        check.same(51, "subscribersIn(20)", x.subscribersIn(20), 1);
        check.same(51, "subscribersIn(21)", x.subscribersIn(21), 0);
        check.same(51, "subscribersIn(40)", x.subscribersIn(40), 0);
        x.addParagraph(0, 0, 9);
        x.call(0);
        check.same(51, "subscribersIn(4) when one is printed", x.subscribersIn(4), 3);
        check.same(51, "subscribersIn(40) when one is printed", x.subscribersIn(40), 0);
    }

    /** The suspense of now, and what it grows by while the lift is stuck, count in what would be. */
    private static void subscribersInWithSuspense(Check check) {
        LiftNovel x = new LiftNovel();
        x.setLimit(1);
        x.addParagraph(0, 0, 9);
        x.addParagraph(2, 0, 0);
        x.addReader(0, 1);
        x.call(0);
        x.call(2);
        x.passHours(2);
        check.same(51, "stuckFor() ahead of it", x.stuckFor(), 1);
        check.same(51, "subscribersIn(20) while it is stuck", x.subscribersIn(20), 1);
        check.same(51, "subscribersIn(21) while it is stuck", x.subscribersIn(21), 0);
        x.passHours(1);
        check.same(51, "suspense() ahead of it", x.suspense(), 10);
        check.same(51, "subscribersIn(19) with the suspense", x.subscribersIn(19), 1);
        check.same(51, "subscribersIn(20) with the suspense", x.subscribersIn(20), 0);
    }

    private static void bestToCall(Check check) {
        LiftNovel x = new LiftNovel();
        check.same(52, "bestToCall(1) without readers", x.bestToCall(1), 0);
        x.addReader(4, 20);
        check.same(52, "bestToCall(40) without paragraphs", x.bestToCall(40), 0);
        x.addParagraph(5, 4, 9);
        x.addParagraph(2, 4, 3);
        x.addParagraph(1, 0, 3);
        check.same(52, "bestToCall(1), one floor away", x.bestToCall(1), 1);
        check.same(52, "bestToCall(2), two floors away", x.bestToCall(2), 2);
        check.same(52, "bestToCall(4)", x.bestToCall(4), 2);
        check.same(52, "bestToCall(5)", x.bestToCall(5), 5);
        check.same(52, "bestToCall(40) when all will have left", x.bestToCall(40), 0);
        x.call(5);
        check.same(52, "bestToCall(5), one called already", x.bestToCall(5), 2);
        check.same(52, "bestToCall(1), one called already", x.bestToCall(1), 1);
        LiftNovel y = Scenes.called();
        check.same(52, "bestToCall(5) of several", y.bestToCall(5), 0);
    }

    /** Two readers warm by 3 each are warmer than one by 5. */
    private static void bestToCallByAllSubscribers(Check check) {
        LiftNovel x = new LiftNovel();
        x.addReader(1, 20);
        x.addReader(2, 20);
        x.addReader(2, 20);
        x.addParagraph(1, 1, 5);
        x.addParagraph(0, 2, 3);
        check.same(52, "bestToCall(1), 7 by the one, 7 by the other", x.bestToCall(1), 0);
        x.addParagraph(0, 0, 0);
        x.call(1);
        x.passHours(1);
        check.same(52, "bestToCall(1) from the floor 1", x.bestToCall(1), 0);
        LiftNovel y = new LiftNovel();
        y.addReader(1, 20);
        y.addReader(2, 20);
        y.addReader(2, 20);
        y.addParagraph(0, 1, 5);
        y.addParagraph(1, 2, 4);
        check.same(52, "bestToCall(1), 7 by the one, 9 by the other", y.bestToCall(1), 1);
        y.turnTopic(2);
        check.same(52, "bestToCall(1), the better one forbidden", y.bestToCall(1), 0);
    }

    private static void bestToAllow(Check check) {
        LiftNovel x = new LiftNovel();
        x.addParagraph(0, 7, 1);
        check.same(53, "bestToAllow(40), nothing forbidden", x.bestToAllow(40), -1);
        x.turnTopic(7);
        x.turnTopic(0);
        check.same(53, "bestToAllow(40), nothing called", x.bestToAllow(40), -1);
        x.call(0);
        check.same(53, "bestToAllow(1)", x.bestToAllow(1), 7);
        x.turnTopic(7);
        check.same(53, "bestToAllow(1), none fewer", x.bestToAllow(1), -1);
        x.turnTopic(7);
        x.passHours(1);
        check.same(53, "bestToAllow(40), cut already", x.bestToAllow(40), -1);
        check.same(53, "cuts()", x.cuts(), 1);
        LiftNovel y = new LiftNovel();
        y.addParagraph(0, 0, 1);
        y.turnTopic(0);
        y.call(0);
        check.same(53, "bestToAllow(1), the topic 0", y.bestToAllow(1), 0);
        check.same(50, "printedIn(1), the topic 0 forbidden", y.printedIn(1), 0);
    }

    /** One paragraph an hour: of the topics 6, 5, 6, 5 and 5. */
    private static void bestToAllowOfSeveral(Check check) {
        LiftNovel x = new LiftNovel();
        x.addParagraph(1, 6, 1);
        x.addParagraph(2, 5, 1);
        x.addParagraph(3, 6, 1);
        x.addParagraph(4, 5, 1);
        x.addParagraph(5, 5, 1);
        for (int floor = 1; floor <= 5; floor++) {
            x.call(floor);
        }
        x.turnTopic(5);
        x.turnTopic(6);
        int[] due = {6, 5, 6, 5, 5};
        for (int hours = 1; hours <= 5; hours++) {
            check.same(53, "bestToAllow(" + hours + ")", x.bestToAllow(hours), due[hours - 1]);
        }
        x.turnTopic(5);
        check.same(53, "bestToAllow(5), 5 allowed", x.bestToAllow(5), 6);
    }

    private static void wrongHours(Check check) {
        LiftNovel x = Scenes.called();
        for (int hours : new int[] {0, -1, 41, Integer.MIN_VALUE, Integer.MAX_VALUE}) {
            check.noArgument(50, x, "printedIn(" + hours + ")", () -> x.printedIn(hours));
            check.noArgument(51, x, "subscribersIn(" + hours + ")", () -> x.subscribersIn(hours));
            check.noArgument(52, x, "bestToCall(" + hours + ")", () -> x.bestToCall(hours));
            check.noArgument(53, x, "bestToAllow(" + hours + ")", () -> x.bestToAllow(hours));
        }
    }

    private static void changesNothing(Check check) {
        LiftNovel x = Scenes.called();
        x.turnTopic(3);
        x.setLimit(3);
        x.passHours(2);
        check.asks(48, x, "hoursUntilStop(5)", () -> x.hoursUntilStop(5));
        check.asks(49, x, "hoursUntilStuck()", () -> x.hoursUntilStuck());
        check.asks(50, x, "printedIn(40)", () -> x.printedIn(40));
        check.asks(51, x, "subscribersIn(40)", () -> x.subscribersIn(40));
        check.asks(52, x, "bestToCall(40)", () -> x.bestToCall(40));
        check.asks(53, x, "bestToAllow(40)", () -> x.bestToAllow(40));
        check.asks(55, x, "digest()", () -> x.digest());
    }

    private static void meanWarmth(Check check) {
        LiftNovel x = new LiftNovel();
        check.same(54, "meanWarmth() without any", x.meanWarmth(), 0.0);
        x.addReader(0, 1);
        check.same(54, "meanWarmth() of one", x.meanWarmth(), 1.0);
        x.addReader(0, 4);
        check.same(54, "meanWarmth() of two", x.meanWarmth(), 2.5);
        x.addReader(0, 5);
        check.same(54, "meanWarmth() of three", x.meanWarmth(), 10.0 / 3.0);
        x.passHours(1);
        check.same(54, "meanWarmth(), one not warm", x.meanWarmth(), 7.0 / 3.0);
        x.passHours(1);
        check.same(54, "meanWarmth(), one no subscriber", x.meanWarmth(), 2.5);
        x.passHours(9);
        check.same(54, "meanWarmth() when all have left", x.meanWarmth(), 0.0);
    }
}
