/** Promises 43 to 47: mirrors. */
final class MirrorTests {
    private MirrorTests() {
    }

    static void run(Check check) {
        without(check);
        grades(check);
        gradesWithSuspense(check);
        favourites(check);
        kindest(check);
        wrongNumbers(check);
    }

    private static void without(Check check) {
        LiftNovel x = new LiftNovel();
        check.same(43, "mirrors()", x.mirrors(), 0);
        check.same(47, "kindest() without any", x.kindest(), -1);
        x.addMirror(0, 1);
        check.same(43, "mirrors()", x.mirrors(), 1);
        check.same(45, "gradesBy(0) without instalments", x.gradesBy(0), 0);
        check.same(46, "favouriteOf(0) without instalments", x.favouriteOf(0), -1);
        check.same(47, "kindest() without instalments", x.kindest(), 0);
        x.addMirror(1, 0);
        check.same(47, "kindest(), of two the smaller number", x.kindest(), 0);
    }

    /** The topics 0 (liked), 1 (disliked) and 2 (neither), with thrills 0 to 9. */
    private static void grades(Check check) {
        for (int thrill = 0; thrill <= 9; thrill++) {
            LiftNovel x = new LiftNovel();
            x.addMirror(0, 1);
            int third = thrill / 3;
            int[] due = {6 + third, 1 + third, 4 + third};
            int sum = 0;
            for (int topic = 0; topic < 3; topic++) {
                x.addParagraph(0, topic, thrill);
                x.call(0);
                x.passHours(1);
                sum += due[topic];
                check.same(44, "grade(0, " + topic + ") with thrill " + thrill, x.grade(0, topic), due[topic]);
                check.same(45, "gradesBy(0)", x.gradesBy(0), sum);
            }
        }
    }

    private static void gradesWithSuspense(Check check) {
        LiftNovel x = Scenes.longSuspense();
        check.same(44, "grade(0, 1), 10 at most", x.grade(0, 1), 10);
        check.same(44, "grade(0, 0), 3 less", x.grade(0, 0), 4);
        check.same(45, "gradesBy(0)", x.gradesBy(0), 14);
        x.addMirror(5, 6);
        check.same(44, "grade(1, 0) of a mirror added later", x.grade(1, 0), 7);
        check.same(45, "gradesBy(1)", x.gradesBy(1), 17);
        LiftNovel y = new LiftNovel();
        y.setLimit(3);
        y.addParagraph(1, 0, 8);
        y.addParagraph(4, 0, 3);
        y.addMirror(2, 0);
        y.call(1);
        y.call(4);
        y.passHours(5);
        check.same(44, "grade(0, 1), a third of 12, 3 less", y.grade(0, 1), 5);
    }

    private static void favourites(Check check) {
        LiftNovel x = Scenes.told();
        check.same(46, "favouriteOf(0)", x.favouriteOf(0), 1);
        check.same(46, "favouriteOf(1)", x.favouriteOf(1), 2);
        LiftNovel y = new LiftNovel();
        y.addMirror(1, 0);
        int[][] topicsAndThrills = {{0, 9}, {2, 6}, {1, 0}, {1, 3}, {1, 5}};
        int[] due = {0, 1, 1, 3, 3};
        y.addMirror(4, 0);
        for (int stop = 0; stop < due.length; stop++) {
            y.addParagraph(0, topicsAndThrills[stop][0], topicsAndThrills[stop][1]);
            y.call(0);
            y.passHours(1);
            check.same(46, "favouriteOf(0) of " + (stop + 1), y.favouriteOf(0), due[stop]);
        }
        check.same(46, "favouriteOf(1)", y.favouriteOf(1), 1);
    }

    private static void kindest(Check check) {
        LiftNovel x = Scenes.told();
        check.same(45, "gradesBy(0)", x.gradesBy(0), 7 + 8 + 1);
        check.same(45, "gradesBy(1)", x.gradesBy(1), 2 + 3 + 4);
        check.same(47, "kindest()", x.kindest(), 0);
        x.addMirror(1, 2);
        check.same(45, "gradesBy(2)", x.gradesBy(2), 7 + 8 + 4);
        check.same(47, "kindest()", x.kindest(), 2);
        x.addMirror(1, 5);
        check.same(47, "kindest(), of two the smaller number", x.kindest(), 2);
        check.same(43, "mirrors()", x.mirrors(), 4);
    }

    private static void wrongNumbers(Check check) {
        LiftNovel x = Scenes.told();
        for (int mirror : new int[] {-1, 2, 3, 4, Integer.MIN_VALUE, Integer.MAX_VALUE}) {
            check.noIndex(44, x, "grade(" + mirror + ", 0)", () -> x.grade(mirror, 0));
            check.noIndex(45, x, "gradesBy(" + mirror + ")", () -> x.gradesBy(mirror));
            check.noIndex(46, x, "favouriteOf(" + mirror + ")", () -> x.favouriteOf(mirror));
        }
        for (int i : new int[] {-1, 3, 107, 108, Integer.MIN_VALUE, Integer.MAX_VALUE}) {
            check.noIndex(44, x, "grade(0, " + i + ")", () -> x.grade(0, i));
        }
    }
}
