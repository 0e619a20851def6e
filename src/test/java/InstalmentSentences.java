/** What the promises 30 to 36 say beside their boundary cases: instalments. */
final class InstalmentSentences {
    private InstalmentSentences() {
    }

    static void run(Sentences all) {
        all.promise(30, "`instalment`: an instalment", InstalmentSentences::floors);
        all.promise(31, "`instalment`: an instalment", InstalmentSentences::paragraphs);
        all.promise(32, "`instalment`: an instalment", InstalmentSentences::thrills);
        all.promise(33, "`instalment`: an instalment", InstalmentSentences::hours);
        all.promise(34, "Returns the instalment with the greatest thrill", InstalmentSentences::mostThrilling);
        all.promise(35, "Returns the longest time between two instalments", InstalmentSentences::longestWait);
        all.promise(36, "Returns how often an instalment is of a higher floor", InstalmentSentences::climbs);
    }

    /**
     * Six instalments: of the floors 0, 0, 3, 2, 2 and 5, the paragraphs 0, 1, 0, 0, 1 and 0, with the thrills 2, 4, 9,
     * 9, 1 and 3, in the hours 0, 1, 9, 10, 12 and 17.
     */
    private static LiftNovel sixTold() {
        LiftNovel x = Scenes.chapter(new int[][] {{0, 2}, {0, 4}});
        x.addParagraph(3, 1, 9);
        x.addParagraph(2, 1, 9);
        x.addParagraph(2, 1, 1);
        x.addParagraph(5, 1, 3);
        Scenes.stopHere(x, 2);
        x.passHours(5);
        x.call(3);
        x.passHours(3);
        x.call(2);
        x.passHours(2);
        Scenes.stopHere(x, 1);
        x.passHours(2);
        x.call(5);
        x.passHours(3);
        return x;
    }

    private static void floors(Edge e) {
        int[] due = {0, 0, 3, 2, 2, 5};
        for (int i = 0; i < due.length; i++) {
            e.same("floorIn(" + i + ")", sixTold().floorIn(i), due[i]);
        }
    }

    private static void paragraphs(Edge e) {
        int[] due = {0, 1, 0, 0, 1, 0};
        for (int i = 0; i < due.length; i++) {
            e.same("paragraphIn(" + i + ")", sixTold().paragraphIn(i), due[i]);
        }
    }

    private static void thrills(Edge e) {
        int[] due = {2, 4, 9, 9, 1, 3};
        for (int i = 0; i < due.length; i++) {
            e.same("thrillIn(" + i + ")", sixTold().thrillIn(i), due[i]);
        }
    }

    private static void hours(Edge e) {
        int[] due = {0, 1, 9, 10, 12, 17};
        for (int i = 0; i < due.length; i++) {
            e.same("hourIn(" + i + ")", sixTold().hourIn(i), due[i]);
        }
    }

    /** Behind each of nine; with the suspense it may be one whose paragraph has less. */
    private static void mostThrilling(Edge e) {
        int[] thrills = {1, 0, 3, 2, 7, 6, 8, 5, 9};
        int[] due = {0, 0, 2, 2, 4, 4, 6, 6, 8};
        LiftNovel x = new LiftNovel();
        x.begin(2);
        for (int i = 0; i < thrills.length; i++) {
            x.addParagraph(0, 0, thrills[i]);
            Scenes.stopHere(x, 1);
            e.same("mostThrilling() of " + (i + 1), x.mostThrilling(), due[i]);
        }
        x.setLimit(1);
        x.addParagraph(1, 0, 0);
        x.call(1);
        x.passHours(1);
        e.same("mostThrilling(), one without thrill behind it", x.mostThrilling(), 8);
        for (int ride = 0; ride < 10; ride++) {
            x.call(1 - x.liftAt());
            x.passHours(2);
        }
        x.passHours(1);
        x.addParagraph(1, 0, 0);
        Scenes.stopHere(x, 1);
        e.same("thrillIn(10), by suspense alone", x.thrillIn(10), 11);
        e.same("mostThrilling(), by suspense alone", x.mostThrilling(), 10);
    }

    private static void longestWait(Edge e) {
        e.same("longestWait() of six", sixTold().longestWait(), 8);
        for (int longest = 0; longest < 4; longest++) {
            LiftNovel x = Scenes.chapter(new int[][] {{0, 0}, {0, 0}, {0, 0}, {0, 0}, {0, 0}});
            x.passHours(30);
            for (int stop = 0; stop < 4; stop++) {
                Scenes.stopHere(x, 1);
                x.passHours(stop == longest ? 11 : 4);
            }
            Scenes.stopHere(x, 1);
            x.passHours(30);
            e.same("longestWait(), behind the instalment " + longest, x.longestWait(), 12);
        }
    }

    private static void climbs(Edge e) {
        e.same("climbs() of six", sixTold().climbs(), 2);
        int[][] floorsAndClimbs = {{0, 5, 0, 5, 2}, {5, 4, 3, 2, 0}, {1, 2, 3, 4, 3}, {2, 2, 3, 3, 1}, {3, 1, 2, 0, 1}};
        for (int[] row : floorsAndClimbs) {
            LiftNovel x = new LiftNovel();
            x.setLimit(99);
            for (int i = 0; i < 4; i++) {
                x.addParagraph(row[i], 0, 0);
                x.call(row[i]);
                x.passHours(6);
            }
            e.same("instalments()", x.instalments(), 4);
            e.same("climbs()", x.climbs(), row[4]);
        }
    }
}
