/** What the promises 48 to 54 say beside their boundary cases: what would be is what is, if nothing else is done. */
final class ForesightSentences {
    private static final int MOST_HOURS = 40;

    private ForesightSentences() {
    }

    static void run(Sentences all) {
        all.promise(48, "`floor`: a floor", ForesightSentences::floorToStopOn);
        all.promise(48, "Returns in how many hours the lift stops on it, if nothing else is done",
                ForesightSentences::hoursUntilStop);
        all.promise(49, "Returns in how many hours the lift is stuck, if nothing else is done",
                ForesightSentences::hoursUntilStuck);
        all.promise(50, "`hours`: how many hours", ForesightSentences::hoursOfPrinting);
        all.promise(50, "Returns how many instalments are printed in them, if nothing else is done",
                ForesightSentences::printedIn);
        all.promise(51, "`hours`: how many hours", ForesightSentences::hoursOfSubscribers);
        all.promise(51, "Returns how many subscribers there are behind them, if nothing else is done",
                ForesightSentences::subscribersIn);
        all.promise(52, "`hours`: how many hours", ForesightSentences::hoursOfACall);
        all.promise(52, "Returns the floor by whose calling now all subscribers together are the warmest behind them, "
                + "if nothing else is done", ForesightSentences::bestToCall);
        all.promise(53, "`hours`: how many hours", ForesightSentences::hoursOfCuts);
        all.promise(53, "Returns the forbidden topic by whose allowing now the fewest paragraphs are cut in them, "
                + "if nothing else is done", ForesightSentences::bestToAllow);
        all.promise(54, "Returns the mean warmth of subscribers", ForesightSentences::meanWarmth);
    }

    private static void floorToStopOn(Edge e) {
        LiftNovel x = Scenes.standingOn(4);
        for (int floor : new int[] {3, 4, 6, 11, 0}) {
            x.call(floor);
        }
        int[] due = {-1, -1, -1, -1, 1, -1, -1, -1, -1, -1, -1, -1};
        due[3] = 2;
        due[0] = 5;
        due[6] = 11;
        due[11] = 16;
        for (int floor = 0; floor < 12; floor++) {
            e.same("hoursUntilStop(" + floor + ")", x.hoursUntilStop(floor), due[floor]);
        }
    }

    private static void hoursUntilStop(Edge e) {
        for (Scenes.Maker maker : Scenes.MAKERS) {
            LiftNovel x = maker.make();
            int[] due = hoursOfStops(maker.make());
            for (int floor = 0; floor < due.length; floor++) {
                e.same("hoursUntilStop(" + floor + ")", x.hoursUntilStop(floor), due[floor]);
            }
        }
        LiftNovel x = new LiftNovel();
        x.call(5);
        e.same("hoursUntilStop(5)", x.hoursUntilStop(5), 5);
        x.call(0);
        e.same("hoursUntilStop(5), something else done", x.hoursUntilStop(5), 6);
    }

    /** As it really comes: in which of the next 80 hours each floor is called no more. */
    private static int[] hoursOfStops(LiftNovel x) {
        int[] hours = new int[x.floors()];
        for (int hour = 1; hour <= 80; hour++) {
            boolean[] called = new boolean[hours.length];
            for (int floor = 0; floor < hours.length; floor++) {
                called[floor] = x.isCalled(floor);
            }
            x.passHours(1);
            for (int floor = 0; floor < hours.length; floor++) {
                if (called[floor] && !x.isCalled(floor)) {
                    hours[floor] = hour;
                }
            }
        }
        for (int floor = 0; floor < hours.length; floor++) {
            hours[floor] = hours[floor] == 0 ? -1 : hours[floor];
        }
        return hours;
    }

    private static void hoursUntilStuck(Edge e) {
        for (Scenes.Maker maker : Scenes.MAKERS) {
            e.same("hoursUntilStuck()", maker.make().hoursUntilStuck(), hoursUntilItIsStuck(maker.make()));
            for (int limit = 1; limit <= 12; limit++) {
                LiftNovel x = maker.make();
                LiftNovel real = maker.make();
                x.setLimit(limit);
                real.setLimit(limit);
                e.same("hoursUntilStuck(), something else done", x.hoursUntilStuck(), hoursUntilItIsStuck(real));
            }
        }
    }

    private static int hoursUntilItIsStuck(LiftNovel x) {
        for (int hour = 0; hour < 80; hour++) {
            if (x.stuckFor() > 0) {
                return hour;
            }
            x.passHours(1);
        }
        return x.stuckFor() > 0 ? 80 : -1;
    }

    private static void hoursOfPrinting(Edge e) {
        LiftNovel x = Scenes.fullAndCalled();
        for (int hours = 1; hours <= MOST_HOURS; hours++) {
            e.same("printedIn(" + hours + ")", x.printedIn(hours), Math.min(12, hours));
        }
    }

    private static void printedIn(Edge e) {
        for (Scenes.Maker maker : Scenes.MAKERS) {
            LiftNovel x = maker.make();
            for (int hours = 1; hours <= MOST_HOURS; hours++) {
                e.same("printedIn(" + hours + ")", x.printedIn(hours), maker.make().passHours(hours));
            }
        }
        LiftNovel x = Scenes.chapter(new int[][] {{0, 0}});
        e.same("printedIn(40)", x.printedIn(40), 0);
        x.call(0);
        e.same("printedIn(40), something else done", x.printedIn(40), 1);
    }

    private static void hoursOfSubscribers(Edge e) {
        LiftNovel x = new LiftNovel();
        for (int reader = 0; reader < 8; reader++) {
            x.addReader(0, 2 * reader + 5);
        }
        for (int hours = 1; hours <= MOST_HOURS; hours++) {
            int left = hours < 6 ? 0 : Math.min(8, (hours - 6) / 2 + 1);
            e.same("subscribersIn(" + hours + ")", x.subscribersIn(hours), 8 - left);
        }
    }

    private static void subscribersIn(Edge e) {
        for (Scenes.Maker maker : Scenes.MAKERS) {
            LiftNovel x = maker.make();
            for (int hours = 1; hours <= MOST_HOURS; hours++) {
                LiftNovel real = maker.make();
                real.passHours(hours);
                e.same("subscribersIn(" + hours + ")", x.subscribersIn(hours), real.subscribers());
            }
        }
        LiftNovel x = Scenes.chapter(new int[][] {{0, 9}});
        x.addReader(0, 1);
        e.same("subscribersIn(2)", x.subscribersIn(2), 0);
        x.call(0);
        e.same("subscribersIn(2), something else done", x.subscribersIn(2), 1);
    }

    /** The farther a floor the better, so it is the farthest one that is reached in so many hours. */
    private static void hoursOfACall(Edge e) {
        LiftNovel x = Scenes.standingOn(0);
        x.addReader(0, 20);
        for (int floor = 1; floor <= 9; floor++) {
            x.addParagraph(floor, 0, floor);
        }
        for (int hours = 1; hours <= 20; hours++) {
            e.same("bestToCall(" + hours + ")", x.bestToCall(hours), Math.min(9, hours));
        }
    }

    private static void bestToCall(Edge e) {
        for (Scenes.Maker maker : Scenes.MAKERS) {
            for (int hours = 1; hours <= MOST_HOURS; hours++) {
                e.same("bestToCall(" + hours + ")", maker.make().bestToCall(hours), bestByCalling(maker, hours));
            }
        }
        for (int reader = 0; reader < 8; reader++) {
            e.same("bestToCall(1), as the reader " + reader + " likes it", onlyOneLikes(reader).bestToCall(1), 1);
        }
        LiftNovel x = Scenes.chapter(new int[][] {{0, 5}});
        x.addParagraph(1, 0, 7);
        x.addReader(0, 20);
        e.same("bestToCall(1)", x.bestToCall(1), 1);
        x.turnTopic(0);
        e.same("bestToCall(1), something else done", x.bestToCall(1), 0);
    }

    /** Eight readers are warmer by 3 each by the floors 0 and 1, and one of them by 6 more by the floor 1. */
    private static LiftNovel onlyOneLikes(int one) {
        LiftNovel x = Scenes.chapter(new int[][] {{0, 9}});
        x.addParagraph(1, 7, 9);
        for (int reader = 0; reader < 8; reader++) {
            x.addReader(reader == one ? 7 : 6, 5);
        }
        return x;
    }

    /** As it really comes: each floor is called in a novel of its own. */
    private static int bestByCalling(Scenes.Maker maker, int hours) {
        int best = -1;
        int warmest = -1;
        for (int floor = 0; floor < maker.make().floors(); floor++) {
            LiftNovel real = maker.make();
            real.call(floor);
            real.passHours(hours);
            int warmth = 0;
            for (int reader = 0; reader < real.readers(); reader++) {
                warmth += real.warmthOf(reader);
            }
            if (warmth > warmest) {
                warmest = warmth;
                best = floor;
            }
        }
        return best;
    }

    /** One paragraph an hour, of the topics 7, 6, 6, 5, 5 and 5. */
    private static void hoursOfCuts(Edge e) {
        LiftNovel x = new LiftNovel();
        int[] topics = {7, 6, 6, 5, 5, 5};
        for (int floor = 0; floor < 6; floor++) {
            x.addParagraph(floor, topics[floor], 0);
        }
        Scenes.callAll(x);
        for (int topic = 5; topic <= 7; topic++) {
            x.turnTopic(topic);
        }
        int[] due = {7, 6, 6, 6, 5, 5};
        for (int hours = 1; hours <= 20; hours++) {
            e.same("bestToAllow(" + hours + ")", x.bestToAllow(hours), hours < 6 ? due[hours - 1] : 5);
        }
    }

    private static void bestToAllow(Edge e) {
        for (Scenes.Maker maker : Scenes.MAKERS) {
            for (int hours = 1; hours <= MOST_HOURS; hours++) {
                e.same("bestToAllow(" + hours + ")", maker.make().bestToAllow(hours), bestByAllowing(maker, hours));
            }
        }
        LiftNovel x = Scenes.chapter(new int[][] {{2, 0}});
        x.turnTopic(2);
        e.same("bestToAllow(1)", x.bestToAllow(1), -1);
        x.call(0);
        e.same("bestToAllow(1), something else done", x.bestToAllow(1), 2);
    }

    /** As it really comes: each forbidden topic is allowed in a novel of its own. */
    private static int bestByAllowing(Scenes.Maker maker, int hours) {
        LiftNovel unallowed = maker.make();
        unallowed.passHours(hours);
        int best = -1;
        int fewest = unallowed.cuts();
        for (int topic = 0; topic < 8; topic++) {
            LiftNovel real = maker.make();
            if (real.isForbidden(topic)) {
                real.turnTopic(topic);
                real.passHours(hours);
                if (real.cuts() < fewest) {
                    fewest = real.cuts();
                    best = topic;
                }
            }
        }
        return best;
    }

    private static void meanWarmth(Edge e) {
        LiftNovel x = new LiftNovel();
        int[] warms = {20, 1, 7, 2, 13, 20, 4, 8};
        double[] due = {20.0, 10.5, 28.0 / 3, 7.5, 8.6, 10.5, 67.0 / 7, 9.375};
        for (int reader = 0; reader < 8; reader++) {
            x.addReader(0, warms[reader]);
            e.same("meanWarmth() of " + (reader + 1), x.meanWarmth(), due[reader]);
        }
        x.passHours(2);
        e.same("meanWarmth(), one has left, one is not warm", x.meanWarmth(), 60.0 / 7);
    }
}
