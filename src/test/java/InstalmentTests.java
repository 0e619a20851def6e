/** Promises 29 to 36: instalments. */
final class InstalmentTests {
    private InstalmentTests() {
    }

    static void run(Check check) {
        without(check);
        each(check);
        wrongNumbers(check);
        mostThrilling(check);
        longestWait(check);
        climbs(check);
        allOfThem(check);
    }

    private static void without(Check check) {
        LiftNovel x = new LiftNovel();
        check.same(29, "instalments()", x.instalments(), 0);
        check.same(34, "mostThrilling() without any", x.mostThrilling(), -1);
        check.same(35, "longestWait() without any", x.longestWait(), 0);
        check.same(36, "climbs() without any", x.climbs(), 0);
        x.addParagraph(3, 0, 0);
        x.call(3);
        x.passHours(9);
        check.same(34, "mostThrilling() with one of thrill 0", x.mostThrilling(), 0);
        check.same(35, "longestWait() with one", x.longestWait(), 0);
        check.same(36, "climbs() with one", x.climbs(), 0);
    }

    private static void each(Check check) {
        LiftNovel x = Scenes.told();
        x.call(0);
        x.passHours(6);
        int[][] due = {{0, 0, 5, 0}, {3, 0, 7, 3}, {5, 0, 2, 5}, {0, 1, 9, 10}};
        check.same(29, "instalments()", x.instalments(), 4);
        for (int i = 0; i < due.length; i++) {
            check.same(30, "floorIn(" + i + ")", x.floorIn(i), due[i][0]);
            check.same(31, "paragraphIn(" + i + ")", x.paragraphIn(i), due[i][1]);
            check.same(32, "thrillIn(" + i + ")", x.thrillIn(i), due[i][2]);
            check.same(33, "hourIn(" + i + ")", x.hourIn(i), due[i][3]);
        }
        LiftNovel y = Scenes.longSuspense();
        check.same(32, "thrillIn(1) with the suspense", y.thrillIn(1), 109);
        check.same(33, "hourIn(1)", y.hourIn(1), 21);
        check.same(24, "thrillOf(11, 0) without the suspense", y.thrillOf(11, 0), 9);
    }

    private static void wrongNumbers(Check check) {
        LiftNovel x = Scenes.told();
        for (int i : new int[] {-1, 3, 107, 108, Integer.MIN_VALUE, Integer.MAX_VALUE}) {
            check.noIndex(30, x, "floorIn(" + i + ")", () -> x.floorIn(i));
            check.noIndex(31, x, "paragraphIn(" + i + ")", () -> x.paragraphIn(i));
            check.noIndex(32, x, "thrillIn(" + i + ")", () -> x.thrillIn(i));
            check.noIndex(33, x, "hourIn(" + i + ")", () -> x.hourIn(i));
        }
    }

    private static void mostThrilling(Check check) {
        LiftNovel x = new LiftNovel();
        for (int thrill : new int[] {3, 6, 6, 2, 8, 8}) {
            x.addParagraph(0, 0, thrill);
        }
        int[] due = {0, 1, 1, 1, 4, 4};
        for (int stop = 0; stop < due.length; stop++) {
            x.call(0);
            x.passHours(1);
            check.same(34, "mostThrilling() of " + (stop + 1), x.mostThrilling(), due[stop]);
        }
        check.same(34, "mostThrilling(), with the suspense", Scenes.longSuspense().mostThrilling(), 1);
    }

    private static void longestWait(Check check) {
        LiftNovel x = new LiftNovel();
        for (int number = 0; number < 5; number++) {
            x.addParagraph(0, 0, 0);
        }
        x.passHours(20);
        int[] waits = {1, 2, 7, 4};
        int[] due = {0, 1, 2, 7};
        for (int stop = 0; stop < waits.length; stop++) {
            x.call(0);
            x.passHours(waits[stop]);
            check.same(35, "longestWait() of " + (stop + 1), x.longestWait(), due[stop]);
        }
        x.passHours(30);
        check.same(35, "longestWait(), not up to now", x.longestWait(), 7);
        x.call(0);
        x.passHours(1);
        check.same(35, "longestWait()", x.longestWait(), 34);
    }

    private static void climbs(Check check) {
        LiftNovel x = new LiftNovel();
        for (int floor = 0; floor < 6; floor++) {
            x.addParagraph(floor, 0, 0);
            x.addParagraph(floor, 0, 0);
        }
        int[] floors = {2, 2, 4, 5, 4, 3, 5};
        int[] due = {0, 0, 1, 2, 2, 2, 3};
        for (int stop = 0; stop < floors.length; stop++) {
            x.call(floors[stop]);
            x.passHours(4);
            check.same(36, "climbs() of " + (stop + 1), x.climbs(), due[stop]);
        }
    }

    /** As many instalments as there can be: 12 chapters of 9 paragraphs. */
    private static void allOfThem(Check check) {
        LiftNovel x = Scenes.full();
        int printed = 0;
        for (int round = 0; round < 9; round++) {
            Scenes.callAll(x);
            printed += x.passHours(30);
        }
        check.same(29, "instalments()", x.instalments(), 108);
        check.same(10, "all that passHours() answered", printed, 108);
        check.same(31, "paragraphIn(107)", x.paragraphIn(107), 8);
        check.same(34, "mostThrilling(), a thrill of 9", x.thrillIn(x.mostThrilling()), 9);
        check.same(35, "longestWait(), between the rounds", x.longestWait(), 19);
        check.same(36, "climbs(), in every second round", x.climbs(), 11 * 5);
        check.same(55, "digest()", x.digest(), DigestTests.of(x));
        for (int topic = 0; topic < 8; topic++) {
            check.same(28, "toCome(" + topic + ")", x.toCome(topic), 0);
        }
    }
}
