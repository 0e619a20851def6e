/** Boundary cases of the promises 29 to 36: instalments. */
final class InstalmentEdges {
    private static final String NO_INSTALMENT = "Throws `IndexOutOfBoundsException` if there is no such instalment";

    private InstalmentEdges() {
    }

    static void run(Sentences all) {
        all.promise(29, "Returns how many instalments there are", InstalmentEdges::instalments);
        all.promise(30, "Returns the floor of its chapter", InstalmentEdges::floorIn);
        all.promise(30, NO_INSTALMENT, e -> e.instalmentsAlone(LiftNovel::floorIn));
        all.promise(31, "Returns its paragraph", InstalmentEdges::paragraphIn);
        all.promise(31, NO_INSTALMENT, e -> e.instalmentsAlone(LiftNovel::paragraphIn));
        all.promise(32, NO_INSTALMENT, e -> e.instalmentsAlone(LiftNovel::thrillIn));
        all.promise(32, "Returns its thrill, with the suspense", InstalmentEdges::thrillIn);
        all.promise(33, NO_INSTALMENT, e -> e.instalmentsAlone(LiftNovel::hourIn));
        all.promise(33, "Returns the hour in which it was printed", InstalmentEdges::hourIn);
        all.promise(34, "of several the smallest number", InstalmentEdges::severalMostThrilling);
        all.promise(34, "-1 without any", InstalmentEdges::noneMostThrilling);
        all.promise(35, "between two instalments one behind the other, in hours; 0 without two", InstalmentEdges::wait0);
        all.promise(36, "of a higher floor than the one ahead of it", InstalmentEdges::climbs);
    }

    private static void instalments(Edge e) {
        e.same("instalments(), none", new LiftNovel().instalments(), 0);
        LiftNovel x = Scenes.allTold();
        e.same("instalments(), as many as there can be", x.instalments(), 108);
        Scenes.callAll(x);
        x.passHours(60);
        e.same("instalments(), no paragraph left", x.instalments(), 108);
        x.begin(12);
        e.same("instalments() of another novel", x.instalments(), 0);
    }

    /** Twelve an up or a down, from the lowest floor to the highest one and back. */
    private static void floorIn(Edge e) {
        LiftNovel x = Scenes.allTold();
        for (int i = 0; i < 108; i++) {
            boolean goesUp = i / 12 % 2 == 0;
            e.same("floorIn(" + i + ")", x.floorIn(i), goesUp ? i % 12 : 11 - i % 12);
        }
    }

    private static void paragraphIn(Edge e) {
        LiftNovel x = Scenes.allTold();
        for (int i = 0; i < 108; i++) {
            e.same("paragraphIn(" + i + ")", x.paragraphIn(i), i / 12);
        }
    }

    private static void thrillIn(Edge e) {
        LiftNovel x = Scenes.chapter(new int[][] {{0, 0}, {0, 9}});
        Scenes.stopHere(x, 2);
        e.same("thrillIn(0), none, without suspense", x.thrillIn(0), 0);
        e.same("thrillIn(1), the greatest without suspense", x.thrillIn(1), 9);
        LiftNovel tense = Scenes.stuckOften(40);
        tense.addParagraph(0, 0, 0);
        tense.addParagraph(0, 0, 9);
        Scenes.stopHere(tense, 2);
        e.same("thrillIn(1), the suspense alone", tense.thrillIn(1), 400);
        e.same("thrillIn(2), the suspense is gone", tense.thrillIn(2), 9);
        e.same("thrillOf(0, 1), without the suspense", tense.thrillOf(0, 1), 0);
    }

    private static void hourIn(Edge e) {
        LiftNovel x = Scenes.chapter(new int[][] {{0, 0}, {0, 0}});
        Scenes.stopHere(x, 1);
        e.same("hourIn(0), the first hour", x.hourIn(0), 0);
        x.passHours(60);
        Scenes.stopHere(x, 1);
        e.same("hourIn(1), the hour behind 61", x.hourIn(1), 61);
        LiftNovel last = Scenes.sixtyHoursAhead();
        int before = last.hours();
        last.addParagraph(11, 0, 0);
        last.passHours(60);
        e.same("hourIn(0), the last of 60 hours", last.hourIn(0), before + 59);
    }

    private static void severalMostThrilling(Edge e) {
        LiftNovel x = Scenes.chapter(new int[][] {{0, 0}, {0, 0}, {0, 9}, {0, 8}, {0, 9}});
        Scenes.stopHere(x, 2);
        e.same("mostThrilling() of two without thrill", x.mostThrilling(), 0);
        Scenes.stopHere(x, 3);
        e.same("mostThrilling(), the third and the fifth alike", x.mostThrilling(), 2);
        LiftNovel tense = Scenes.stuckOften(2);
        tense.addParagraph(0, 0, 5);
        Scenes.stopHere(tense, 1);
        e.same("mostThrilling(), by the suspense", tense.mostThrilling(), 1);
    }

    private static void noneMostThrilling(Edge e) {
        LiftNovel x = new LiftNovel();
        e.same("mostThrilling() of a new one", x.mostThrilling(), -1);
        x.addParagraph(0, 0, 9);
        e.same("mostThrilling(), one to come", x.mostThrilling(), -1);
        x.turnTopic(0);
        Scenes.stopHere(x, 1);
        e.same("mostThrilling(), one cut", x.mostThrilling(), -1);
        x.addParagraph(0, 1, 0);
        Scenes.stopHere(x, 1);
        e.same("mostThrilling() of one without thrill", x.mostThrilling(), 0);
        x.begin(6);
        e.same("mostThrilling() of another novel", x.mostThrilling(), -1);
    }

    private static void wait0(Edge e) {
        LiftNovel x = Scenes.chapter(new int[][] {{0, 0}, {0, 0}, {0, 0}, {0, 0}});
        x.passHours(9);
        e.same("longestWait() without any", x.longestWait(), 0);
        Scenes.stopHere(x, 1);
        x.passHours(4);
        e.same("longestWait() with one", x.longestWait(), 0);
        Scenes.stopHere(x, 1);
        x.passHours(9);
        e.same("longestWait() with two", x.longestWait(), 5);
        Scenes.stopHere(x, 2);
        e.same("longestWait() with four", x.longestWait(), 10);
        x.begin(6);
        x.addParagraph(0, 0, 0);
        Scenes.stopHere(x, 1);
        e.same("longestWait() with one of another novel", x.longestWait(), 0);
        LiftNovel next = Scenes.chapter(new int[][] {{0, 0}, {0, 0}});
        Scenes.stopHere(next, 2);
        e.same("longestWait() with two in hours one behind the other", next.longestWait(), 1);
    }

    private static void climbs(Edge e) {
        LiftNovel x = new LiftNovel();
        e.same("climbs() without any", x.climbs(), 0);
        for (int floor : new int[] {1, 1, 0, 0, 5}) {
            x.addParagraph(floor, 0, 0);
        }
        int[] floors = {1, 1, 0, 0, 5};
        int[] due = {0, 0, 0, 0, 1};
        for (int stop = 0; stop < floors.length; stop++) {
            x.call(floors[stop]);
            x.passHours(5);
            e.same("climbs() of " + (stop + 1), x.climbs(), due[stop]);
        }
        e.same("climbs() of the most there can be", Scenes.allTold().climbs(), 55);
    }
}
