import java.util.ArrayList;
import java.util.List;

/** Promise 55: the checksum, reckoned again from the other answers. */
final class DigestTests {
    private DigestTests() {
    }

    static void run(Check check) {
        check.same(55, "digest() of called floors", Scenes.called().digest(), of(Scenes.called()));
        check.same(55, "digest() with a long suspense", Scenes.longSuspense().digest(), of(Scenes.longSuspense()));
        check.same(55, "digest() as the first run under shared/tests tells", Scenes.told().digest(),
                -5788921506083639864L);
        byTheHour(check);
        LiftNovel x = Scenes.called();
        x.turnTopic(1);
        x.setLimit(2);
        for (int hour = 0; hour < 12; hour++) {
            check.same(55, "digest() at the hour " + hour, x.digest(), of(x));
            x.passHours(1);
        }
    }

    /** States in which an hour more or less of foresight makes a difference. */
    private static void byTheHour(Check check) {
        for (int floor = 1; floor <= 5; floor++) {
            LiftNovel x = Scenes.standingOn(floor - 1);
            x.setLimit(99);
            x.call(11);
            x.passHours(1);
            x.addParagraph(0, 0, 0);
            x.call(floor);
            x.call(0);
            check.same(55, "digest(), to be printed in " + (23 - floor) + " hours", x.digest(), of(x));
            check.same(50, "printedIn(" + (22 - floor) + ")", x.printedIn(22 - floor), 0);
            check.same(50, "printedIn(" + (23 - floor) + ")", x.printedIn(23 - floor), 1);
        }
        for (int warm = 18; warm <= 20; warm++) {
            LiftNovel x = new LiftNovel();
            x.addReader(0, warm);
            check.same(55, "digest() with a reader warm by " + warm, x.digest(), of(x));
        }
        for (int floor = 9; floor <= 11; floor++) {
            LiftNovel x = Scenes.standingOn(0);
            x.addReader(5, 20);
            x.addParagraph(1, 5, 1);
            x.addParagraph(floor, 5, 9);
            check.same(55, "digest(), best to call " + floor, x.digest(), of(x));
            x.turnTopic(5);
            x.call(floor);
            check.same(55, "digest(), best to allow for " + floor, x.digest(), of(x));
        }
    }

    static long of(LiftNovel x) {
        return fold(2293, numbers(x));
    }

    /** All numbers that the checksum is made of, in their order. */
    static long[] numbers(LiftNovel x) {
        List<Integer> all = new ArrayList<>();
        put(all, x.floors(), x.hours(), x.liftAt(), x.goes(), x.calls(), x.stuckFor(), x.wear(), x.limit());
        put(all, x.suspense(), x.cuts(), x.instalments(), x.mostThrilling(), x.longestWait(), x.climbs());
        put(all, x.subscribers(), x.warmest(), x.kindest(), x.hoursUntilStuck(), x.printedIn(20));
        put(all, x.subscribersIn(20), x.bestToCall(10), x.bestToAllow(10));
        for (int f = 0; f < x.floors(); f++) {
            put(all, x.isCalled(f) ? 1 : 0, x.paragraphs(f), x.nextParagraph(f), x.cutOn(f), x.hoursUntilStop(f));
        }
        for (int t = 0; t <= 7; t++) {
            put(all, x.isForbidden(t) ? 1 : 0, x.toCome(t));
        }
        for (int i = 0; i < x.instalments(); i++) {
            put(all, x.floorIn(i), x.paragraphIn(i), x.thrillIn(i), x.hourIn(i));
        }
        for (int r = 0; r < x.readers(); r++) {
            put(all, x.warmthOf(r), x.isSubscriber(r) ? 1 : 0);
        }
        for (int m = 0; m < x.mirrors(); m++) {
            put(all, x.gradesBy(m), x.favouriteOf(m));
        }
        return all.stream().mapToLong(Integer::longValue).toArray();
    }

    private static void put(List<Integer> all, int... numbers) {
        for (int number : numbers) {
            all.add(number);
        }
    }

    static long fold(long start, long... numbers) {
        long d = start;
        for (long number : numbers) {
            d = d * 31 + number;
        }
        return d;
    }
}
