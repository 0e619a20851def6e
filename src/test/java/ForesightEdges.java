import java.math.BigInteger;

/** Boundary cases of the promises 48 to 55: what would be. */
final class ForesightEdges {
    private static final String NO_FLOOR = "Throws `IndexOutOfBoundsException` if there is no such floor";
    private static final String NO_HOURS = "Throws `IllegalArgumentException` if hours is not 1 to 40";
    private static final String NOTHING_CHANGED = "(nothing is changed)";

    private ForesightEdges() {
    }

    static void run(Sentences all) {
        all.promise(48, "at least 1", ForesightEdges::stopSoon);
        all.promise(48, "at most 80", ForesightEdges::stopLate);
        all.promise(48, "-1 if not by then", ForesightEdges::noStop);
        all.promise(48, NOTHING_CHANGED, e -> asksOnly(e, x -> x.hoursUntilStop(5)));
        all.promise(48, NO_FLOOR, e -> e.floorsAlone(LiftNovel::hoursUntilStop));
        all.promise(49, "0 if it is now", ForesightEdges::stuckNow);
        all.promise(49, "at most 80", ForesightEdges::stuckLate);
        all.promise(49, "-1 if not by then", ForesightEdges::notStuck);
        all.promise(49, NOTHING_CHANGED, e -> asksOnly(e, LiftNovel::hoursUntilStuck));
        all.promise(50, "Returns how many instalments are printed in them", ForesightEdges::printedIn);
        all.promise(50, NOTHING_CHANGED, e -> asksOnly(e, x -> x.printedIn(40)));
        all.promise(50, NO_HOURS, e -> hoursAlone(e, LiftNovel::printedIn));
        all.promise(51, "Returns how many subscribers there are behind them", ForesightEdges::subscribersIn);
        all.promise(51, NOTHING_CHANGED, e -> asksOnly(e, x -> x.subscribersIn(40)));
        all.promise(51, NO_HOURS, e -> hoursAlone(e, LiftNovel::subscribersIn));
        all.promise(52, "all subscribers together are the warmest behind them", ForesightEdges::bestToCall);
        all.promise(52, "of several the smallest number", ForesightEdges::severalBestToCall);
        all.promise(52, "one that is called already counts as well", ForesightEdges::calledAlready);
        all.promise(52, NOTHING_CHANGED, e -> asksOnly(e, x -> x.bestToCall(40)));
        all.promise(52, NO_HOURS, e -> hoursAlone(e, LiftNovel::bestToCall));
        all.promise(53, "by whose allowing now the fewest paragraphs are cut in them", ForesightEdges::bestToAllow);
        all.promise(53, "of several the smallest number", ForesightEdges::severalBestToAllow);
        all.promise(53, "-1 if by none fewer are", ForesightEdges::noneBestToAllow);
        all.promise(53, NOTHING_CHANGED, e -> asksOnly(e, x -> x.bestToAllow(40)));
        all.promise(53, NO_HOURS, e -> hoursAlone(e, LiftNovel::bestToAllow));
        all.promise(54, "0 without any", ForesightEdges::noMean);
        all.promise(55, "A number d starts with 2293", ForesightEdges::digestOfANewOne);
        all.promise(55, "hoursUntilStuck(), printedIn(20), subscribersIn(20), bestToCall(10), bestToAllow(10)",
                ForesightEdges::digestByTheHour);
        all.promise(55, "(all in their order)", ForesightEdges::digestOfAll);
        all.promise(55, "which wraps around as a 64-bit integer", ForesightEdges::wrapsAround);
        all.promise(55, "(whether something is so counts 1 or 0)", ForesightEdges::oneOrZero);
    }

    /** What a promise asks of an object, by a number or without. */
    private interface Ask {
        int of(LiftNovel x);
    }

    private interface AskByHours {
        int of(LiftNovel x, int hours);
    }

    /** Asked twice, of objects at rest and at work, it answers the same, and all else is as it was; so is what follows. */
    private static void asksOnly(Edge e, Ask ask) {
        LiftNovel[] asked = {new LiftNovel(), Scenes.called(), Scenes.busy(), Scenes.sixtyHoursAhead(), Scenes.full()};
        LiftNovel[] unasked = {new LiftNovel(), Scenes.called(), Scenes.busy(), Scenes.sixtyHoursAhead(), Scenes.full()};
        for (int i = 0; i < asked.length; i++) {
            LiftNovel x = asked[i];
            e.asks(x, "asking", () -> ask.of(x));
            e.same("asking again", ask.of(x), ask.of(x));
            x.passHours(9);
            unasked[i].passHours(9);
            e.same("nine hours on", Snapshot.of(x), Snapshot.of(unasked[i]));
        }
    }

    private static void hoursAlone(Edge e, AskByHours ask) {
        LiftNovel x = Scenes.busy();
        e.argumentOutside(x, 1, 40, hours -> ask.of(x, hours));
        for (int hours = 1; hours <= 40; hours++) {
            ask.of(x, hours);
        }
        e.yes("asking with 1 to 40 hours", true);
    }

    private static void stopSoon(Edge e) {
        LiftNovel x = Scenes.standingOn(3);
        Scenes.callAll(x);
        e.same("hoursUntilStop(3), where it is", x.hoursUntilStop(3), 1);
        x.passHours(1);
        e.same("hoursUntilStop(4), the next floor", x.hoursUntilStop(4), 1);
        LiftNovel stuck = Scenes.stuckLong(Scenes.worn(), 11);
        stuck.call(11);
        stuck.passHours(24);
        e.same("hoursUntilStop(11), stuck there for an hour more", stuck.hoursUntilStop(11), 2);
        stuck.passHours(1);
        e.same("hoursUntilStop(11), stuck there no more", stuck.hoursUntilStop(11), 1);
    }

    /**
     * The farthest that a stop can be ahead: stuck for 25 hours, a stop where the lift is, and the longest way, up
     * 10 floors and down 11, stuck for an hour behind each. So 80 hours are never asked for.
     */
    private static LiftNovel farthestStop() {
        LiftNovel x = Scenes.stuckLong(Scenes.worn(), 1);
        x.call(1);
        x.call(2);
        x.call(11);
        x.call(0);
        return x;
    }

    private static void stopLate(Edge e) {
        LiftNovel x = farthestStop();
        e.same("hoursUntilStop(1)", x.hoursUntilStop(1), 26);
        e.same("hoursUntilStop(2)", x.hoursUntilStop(2), 27);
        e.same("hoursUntilStop(11)", x.hoursUntilStop(11), 45);
        e.same("hoursUntilStop(0)", x.hoursUntilStop(0), 67);
        x.passHours(60);
        x.passHours(6);
        e.same("hoursUntilStop(0), 66 hours on", x.hoursUntilStop(0), 1);
        e.same("liftAt(), 66 hours on", x.liftAt(), 1);
        x.passHours(1);
        e.no("isCalled(0), 67 hours on", x.isCalled(0));
    }

    private static void noStop(Edge e) {
        LiftNovel x = Scenes.standingOn(5);
        for (int floor = 0; floor < 12; floor++) {
            e.same("hoursUntilStop(" + floor + "), none called", x.hoursUntilStop(floor), -1);
        }
        x.call(9);
        e.same("hoursUntilStop(7), on its way, not called", x.hoursUntilStop(7), -1);
        e.same("hoursUntilStop(5), where it is, not called", x.hoursUntilStop(5), -1);
        x.passHours(4);
        e.same("hoursUntilStop(9), it stopped there", x.hoursUntilStop(9), -1);
        e.same("hoursUntilStop(3), not called, all others are", farthestStop().hoursUntilStop(3), -1);
    }

    private static void stuckNow(Edge e) {
        LiftNovel x = Scenes.stuckLong(Scenes.worn(), 11);
        e.same("hoursUntilStuck(), stuck for 25 hours", x.hoursUntilStuck(), 0);
        x.passHours(24);
        e.same("hoursUntilStuck(), stuck for an hour more", x.hoursUntilStuck(), 0);
        x.passHours(1);
        e.same("hoursUntilStuck(), stuck no more", x.hoursUntilStuck(), -1);
        LiftNovel repaired = Scenes.stuckLong(Scenes.worn(), 11);
        repaired.call(10);
        repaired.repair();
        e.same("hoursUntilStuck(), repaired, a floor to go", repaired.hoursUntilStuck(), 1);
        LiftNovel worn = Scenes.standingOn(1);
        worn.setLimit(1);
        e.same("hoursUntilStuck(), as worn as the limit", worn.hoursUntilStuck(), 1);
    }

    /** The latest: a stop where the lift is, and the longest way, up 10 floors and down 11. So it is never 80 hours. */
    private static void stuckLate(Edge e) {
        LiftNovel x = Scenes.standingOn(1);
        x.repair();
        x.call(2);
        x.call(1);
        x.call(11);
        x.call(0);
        x.setLimit(21);
        e.same("hoursUntilStuck() with the limit 21", x.hoursUntilStuck(), 22);
        x.passHours(21);
        e.same("stuckFor(), 21 hours on", x.stuckFor(), 0);
        e.same("hoursUntilStuck(), 21 hours on", x.hoursUntilStuck(), 1);
        x.passHours(1);
        e.same("hoursUntilStuck(), 22 hours on", x.hoursUntilStuck(), 0);
        e.same("stuckFor(), 22 hours on", x.stuckFor(), 6);
    }

    private static void notStuck(Edge e) {
        e.same("hoursUntilStuck() of a new one", new LiftNovel().hoursUntilStuck(), -1);
        LiftNovel x = Scenes.standingOn(0);
        x.setLimit(12);
        Scenes.callAll(x);
        e.same("hoursUntilStuck(), one floor too few", x.hoursUntilStuck(), -1);
        x.setLimit(11);
        e.same("hoursUntilStuck(), just enough floors", x.hoursUntilStuck(), 12);
        e.same("hoursUntilStuck(), worn by 88 of 99, standing", Scenes.worn().hoursUntilStuck(), -1);
    }

    /** A lift that will go eight floors up, and stop on the floor 11 in the 40th hour, if it is called there. */
    private static LiftNovel fortyHoursAhead(LiftNovel worn) {
        LiftNovel x = Scenes.stuckLong(worn, 3);
        x.addParagraph(11, 5, 9);
        return x;
    }

    private static void printedIn(Edge e) {
        LiftNovel x = fortyHoursAhead(Scenes.worn());
        e.same("printedIn(40), nothing called", x.printedIn(40), 0);
        x.call(11);
        e.same("printedIn(40), the last of them", x.printedIn(40), 1);
        e.same("printedIn(39), the one behind them", x.printedIn(39), 0);
        x.passHours(39);
        e.same("printedIn(1)", x.printedIn(1), 1);
        x.passHours(1);
        e.same("printedIn(40), printed ahead of them", x.printedIn(40), 0);
        LiftNovel all = Scenes.full();
        Scenes.callAll(all);
        e.same("printedIn(40), all floors called", all.printedIn(40), 12);
        e.same("printedIn(1), all floors called", all.printedIn(1), 1);
    }

    private static void subscribersIn(Edge e) {
        e.same("subscribersIn(40) without readers", new LiftNovel().subscribersIn(40), 0);
        LiftNovel x = Scenes.longSuspense();
        e.same("warmthOf(0) ahead of it", x.warmthOf(0), 99);
        e.same("warmthOf(1) ahead of it", x.warmthOf(1), 39);
        e.same("subscribersIn(1)", x.subscribersIn(1), 2);
        e.same("subscribersIn(39), not warm behind them", x.subscribersIn(39), 2);
        e.same("subscribersIn(40), no subscriber behind them", x.subscribersIn(40), 1);
        LiftNovel tense = Scenes.standingOn(0);
        tense.addParagraph(0, 0, 9);
        tense.addParagraph(2, 0, 0);
        Scenes.stopHere(tense, 1);
        tense.setLimit(1);
        tense.addReader(0, 2);
        tense.call(2);
        tense.passHours(1);
        e.same("stuckFor() ahead of it", tense.stuckFor(), 1);
        e.same("subscribersIn(12), warm by the suspense to come", tense.subscribersIn(12), 1);
        e.same("subscribersIn(13), no more", tense.subscribersIn(13), 0);
        LiftNovel left = new LiftNovel();
        left.addReader(0, 1);
        left.passHours(2);
        e.same("subscribersIn(1) when all have left", left.subscribersIn(1), 0);
    }

    /** A worn lift and a reader who is as warm as can be. */
    private static LiftNovel wornWithAWarmReader() {
        LiftNovel x = Scenes.worn();
        x.addReader(5, 20);
        for (int number = 0; number < 9; number++) {
            x.addParagraph(0, 5, 9);
        }
        Scenes.stopHere(x, 9);
        return x;
    }

    private static void bestToCall(Edge e) {
        LiftNovel x = fortyHoursAhead(wornWithAWarmReader());
        e.same("warmthOf(0) ahead of it", x.warmthOf(0), 88);
        e.same("bestToCall(40), printed in the last of them", x.bestToCall(40), 11);
        e.same("bestToCall(39), printed behind them", x.bestToCall(39), 0);
        x.passHours(39);
        e.same("bestToCall(1), not there within an hour", x.bestToCall(1), 0);
        LiftNovel next = Scenes.standingOn(5);
        next.addReader(0, 1);
        next.addParagraph(6, 0, 1);
        next.addParagraph(7, 0, 9);
        e.same("bestToCall(1), the next floor", next.bestToCall(1), 6);
        e.same("bestToCall(2), the one behind it", next.bestToCall(2), 7);
        LiftNovel together = Scenes.standingOn(5);
        for (int reader = 0; reader < 8; reader++) {
            together.addReader(reader < 3 ? 0 : 1, 20);
        }
        together.addParagraph(4, 0, 9);
        together.addParagraph(6, 1, 9);
        e.same("bestToCall(1), five of eight like what is printed on 6", together.bestToCall(1), 6);
        together.addParagraph(5, 0, 9);
        e.same("bestToCall(1), three like what is printed on 5", together.bestToCall(1), 6);
    }

    private static void severalBestToCall(Edge e) {
        e.same("bestToCall(40) without readers", Scenes.standingOn(4).bestToCall(40), 0);
        LiftNovel x = Scenes.standingOn(4);
        x.addReader(0, 20);
        e.same("bestToCall(1) without paragraphs", x.bestToCall(1), 0);
        x.addParagraph(5, 0, 6);
        x.addParagraph(3, 0, 6);
        e.same("bestToCall(1), the floors 3 and 5 alike", x.bestToCall(1), 3);
        x.addParagraph(4, 0, 6);
        x.turnTopic(0);
        e.same("bestToCall(1), all to be cut", x.bestToCall(1), 0);
        LiftNovel warm = Scenes.standingOn(4);
        warm.addReader(0, 20);
        warm.addReader(1, 20);
        warm.addParagraph(5, 0, 6);
        warm.addParagraph(3, 1, 6);
        e.same("bestToCall(1), 8 together by either", warm.bestToCall(1), 3);
    }

    /** By calling another floor the lift turns away from the called one, or spends the suspense ahead of it. */
    private static void calledAlready(Edge e) {
        LiftNovel x = Scenes.standingOn(1);
        x.addReader(0, 20);
        x.addParagraph(0, 0, 9);
        x.call(0);
        e.same("bestToCall(1), the lowest one is called", x.bestToCall(1), 0);
        LiftNovel tense = Scenes.standingOn(0);
        tense.setLimit(1);
        for (int ride = 1; ride <= 9; ride++) {
            tense.call(ride % 2);
            tense.passHours(2);
        }
        tense.setLimit(99);
        tense.addReader(0, 20);
        tense.addParagraph(2, 1, 0);
        tense.addParagraph(3, 0, 0);
        tense.call(3);
        e.same("suspense() ahead of it", tense.suspense(), 9);
        e.same("bestToCall(2), one in the middle is called", tense.bestToCall(2), 3);
        e.same("calls()", tense.calls(), 1);
    }

    private static void bestToAllow(Edge e) {
        LiftNovel x = fortyHoursAhead(Scenes.worn());
        x.call(11);
        x.turnTopic(4);
        x.turnTopic(5);
        e.same("bestToAllow(40), cut in the last of them", x.bestToAllow(40), 5);
        e.same("bestToAllow(39), cut behind them", x.bestToAllow(39), -1);
        x.passHours(39);
        e.same("bestToAllow(1)", x.bestToAllow(1), 5);
        LiftNovel next = new LiftNovel();
        next.addParagraph(1, 5, 0);
        next.addParagraph(2, 4, 0);
        next.addParagraph(3, 4, 0);
        Scenes.callAll(next);
        next.turnTopic(4);
        next.turnTopic(5);
        e.same("bestToAllow(2), others are cut behind them", next.bestToAllow(2), 5);
        e.same("bestToAllow(3), one fewer by either", next.bestToAllow(3), 4);
        for (int topic : new int[] {0, 7}) {
            LiftNovel y = Scenes.chapter(new int[][] {{topic, 0}});
            y.turnTopic(topic);
            y.call(0);
            e.same("bestToAllow(1), the topic " + topic, y.bestToAllow(1), topic);
        }
    }

    private static void severalBestToAllow(Edge e) {
        LiftNovel x = new LiftNovel();
        x.addParagraph(0, 7, 0);
        x.addParagraph(1, 2, 0);
        x.addParagraph(2, 5, 0);
        Scenes.callAll(x);
        x.turnTopic(7);
        x.turnTopic(5);
        x.turnTopic(2);
        e.same("bestToAllow(3), one paragraph fewer by each", x.bestToAllow(3), 2);
        e.same("bestToAllow(1), one fewer by the last one alone", x.bestToAllow(1), 7);
        x.addParagraph(3, 7, 0);
        x.addParagraph(4, 5, 0);
        e.same("bestToAllow(5), two fewer by two of them", x.bestToAllow(5), 5);
    }

    private static void noneBestToAllow(Edge e) {
        LiftNovel x = new LiftNovel();
        e.same("bestToAllow(40), none forbidden", x.bestToAllow(40), -1);
        for (int topic = 0; topic < 8; topic++) {
            x.turnTopic(topic);
        }
        e.same("bestToAllow(40), no paragraphs", x.bestToAllow(40), -1);
        x.addParagraph(0, 0, 0);
        e.same("bestToAllow(40), no calls", x.bestToAllow(40), -1);
        x.call(0);
        e.same("bestToAllow(40), one to be cut", x.bestToAllow(40), 0);
        x.passHours(1);
        e.same("bestToAllow(40), cut ahead of them", x.bestToAllow(40), -1);
        LiftNovel allowed = Scenes.chapter(new int[][] {{1, 0}});
        allowed.turnTopic(0);
        allowed.call(0);
        e.same("bestToAllow(40), one of a topic that is allowed", allowed.bestToAllow(40), -1);
    }

    private static void noMean(Edge e) {
        LiftNovel x = new LiftNovel();
        e.same("meanWarmth() without readers", x.meanWarmth(), 0.0);
        x.addReader(0, 1);
        x.addReader(1, 2);
        e.same("meanWarmth() of two", x.meanWarmth(), 1.5);
        x.passHours(2);
        e.same("meanWarmth() of one who is not warm", x.meanWarmth(), 0.0);
        x.passHours(1);
        e.same("subscribers()", x.subscribers(), 0);
        e.same("meanWarmth() without subscribers", x.meanWarmth(), 0.0);
        LiftNovel warm = Scenes.longSuspense();
        e.same("meanWarmth() of 99 and 39", warm.meanWarmth(), 69.0);
    }

    /** Written out by hand: an empty house of 6 floors, without instalments, readers and mirrors. */
    private static void digestOfANewOne(Edge e) {
        long[] lift = {6, 0, 0, 0, 0, 0, 0, 20, 0, 0, 0, -1, 0, 0, 0, -1, -1, -1, 0, 0, 0, -1};
        long[] floor = {0, 0, -1, 0, -1};
        long d = DigestTests.fold(2293, lift);
        for (int i = 0; i < 6; i++) {
            d = DigestTests.fold(d, floor);
        }
        d = DigestTests.fold(d, new long[16]);
        e.same("digest() of a new one", new LiftNovel().digest(), d);
    }

    /** An hour more or less of foresight makes a difference. */
    private static void digestByTheHour(Edge e) {
        for (int hoursAhead = 19; hoursAhead <= 21; hoursAhead++) {
            LiftNovel x = Scenes.sixtyHoursAhead();
            x.addParagraph(11, 0, 0);
            x.passHours(60 - hoursAhead);
            e.same("printedIn(20), printed in the hour " + hoursAhead, x.printedIn(20), hoursAhead <= 20 ? 1 : 0);
            e.same("digest(), printed in the hour " + hoursAhead, x.digest(), DigestTests.of(x));
            LiftNovel reader = new LiftNovel();
            reader.addReader(0, hoursAhead - 1);
            e.same("subscribersIn(20), one leaves in the hour " + hoursAhead, reader.subscribersIn(20),
                    hoursAhead <= 20 ? 0 : 1);
            e.same("digest(), one leaves in the hour " + hoursAhead, reader.digest(), DigestTests.of(reader));
        }
        for (int floor = 9; floor <= 11; floor++) {
            LiftNovel x = Scenes.standingOn(0);
            x.addReader(0, 20);
            x.addParagraph(floor, 0, 9);
            e.same("bestToCall(10), printed in the hour " + floor, x.bestToCall(10), floor <= 10 ? floor : 0);
            e.same("digest(), printed in the hour " + floor + " if called", x.digest(), DigestTests.of(x));
            x.call(floor);
            x.turnTopic(0);
            e.same("bestToAllow(10), cut in the hour " + floor, x.bestToAllow(10), floor <= 10 ? 0 : -1);
            e.same("digest(), cut in the hour " + floor, x.digest(), DigestTests.of(x));
        }
    }

    /** Of the smallest and the greatest number of floors, instalments, readers and mirrors. */
    private static void digestOfAll(Edge e) {
        LiftNovel smallest = new LiftNovel();
        smallest.begin(2);
        LiftNovel[] objects = {smallest, Scenes.busy(), Scenes.told(), Scenes.full(), Scenes.allTold()};
        for (LiftNovel x : objects) {
            int due = 22 + 5 * x.floors() + 2 * 8 + 4 * x.instalments() + 2 * x.readers() + 2 * x.mirrors();
            e.same("how many numbers there are", DigestTests.numbers(x).length, due);
            e.same("digest()", x.digest(), DigestTests.of(x));
        }
        e.same("digest() as the first run under shared/tests tells", Scenes.told().digest(), -5788921506083639864L);
    }

    private static void wrapsAround(Edge e) {
        LiftNovel[] objects = {new LiftNovel(), Scenes.busy(), Scenes.full(), Scenes.allTold(), Scenes.sixtyHoursAhead()};
        for (LiftNovel x : objects) {
            BigInteger d = BigInteger.valueOf(2293);
            for (long number : DigestTests.numbers(x)) {
                d = d.multiply(BigInteger.valueOf(31)).add(BigInteger.valueOf(number));
            }
            e.yes("more than 64 bits without wrapping around", d.bitLength() > 64);
            e.same("digest(), the lowest 64 bits of it", x.digest(), d.longValue());
        }
    }

    /** Whether topic 7 is forbidden is the last number but one, and whether it is a subscriber the last one. */
    private static void oneOrZero(Edge e) {
        LiftNovel x = new LiftNovel();
        long before = x.digest();
        x.turnTopic(7);
        e.same("digest() by a forbidden topic", x.digest() - before, 31);
        x.turnTopic(7);
        e.same("digest() by an allowed one", x.digest() - before, 0);
        LiftNovel reader = new LiftNovel();
        reader.addReader(0, 1);
        reader.passHours(1);
        e.same("digest(), a subscriber", reader.digest(), DigestTests.of(reader));
        reader.passHours(1);
        e.same("digest(), no subscriber", reader.digest(), DigestTests.of(reader));
        LiftNovel called = new LiftNovel();
        called.call(0);
        e.same("digest(), a called floor", called.digest(), DigestTests.of(called));
    }
}
