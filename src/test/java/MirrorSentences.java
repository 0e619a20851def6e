/** What the promises 44 to 47 say beside their boundary cases: mirrors. */
final class MirrorSentences {
    /** By the four mirrors, for the five instalments. */
    private static final int[][] GRADES = {{9, 1, 5, 6, 6}, {4, 6, 5, 6, 6}, {7, 4, 7, 6, 6}, {7, 4, 2, 6, 6}};

    private MirrorSentences() {
    }

    static void run(Sentences all) {
        all.promise(44, "`mirror`: a mirror", MirrorSentences::gradesByEachMirror);
        all.promise(44, "`instalment`: an instalment", MirrorSentences::gradesForEachInstalment);
        all.promise(44, "Returns its grade for the instalment", MirrorSentences::grade);
        all.promise(45, "`mirror`: a mirror", MirrorSentences::sumsByEachMirror);
        all.promise(46, "`mirror`: a mirror", MirrorSentences::favouritesOfEachMirror);
        all.promise(46, "Returns the instalment with its best grade", MirrorSentences::favourite);
        all.promise(47, "Returns the mirror with the greatest sum of grades", MirrorSentences::kindest);
    }

    /** Four mirrors; instalments of the topics 0, 1, 2, 3 and 3 with the thrills 9, 0, 3, 6 and 7. */
    private static LiftNovel reviewed() {
        LiftNovel x = Scenes.chapter(new int[][] {{0, 9}, {1, 0}, {2, 3}, {3, 6}, {3, 7}});
        x.addMirror(0, 1);
        x.addMirror(1, 0);
        x.addMirror(2, 4);
        x.addMirror(4, 2);
        Scenes.stopHere(x, 5);
        return x;
    }

    private static void gradesByEachMirror(Edge e) {
        LiftNovel x = reviewed();
        for (int mirror = 0; mirror < 4; mirror++) {
            e.same("grade(" + mirror + ", 0)", x.grade(mirror, 0), GRADES[mirror][0]);
            e.same("grade(" + mirror + ", 2)", x.grade(mirror, 2), GRADES[mirror][2]);
        }
    }

    private static void gradesForEachInstalment(Edge e) {
        LiftNovel x = reviewed();
        for (int i = 0; i < 5; i++) {
            e.same("grade(0, " + i + ")", x.grade(0, i), GRADES[0][i]);
            e.same("grade(3, " + i + ")", x.grade(3, i), GRADES[3][i]);
        }
    }

    /** It stays the same whatever comes later, and is by the thrill with the suspense. */
    private static void grade(Edge e) {
        LiftNovel x = reviewed();
        x.turnTopic(0);
        x.addParagraph(0, 0, 9);
        Scenes.stopHere(x, 2);
        for (int mirror = 0; mirror < 4; mirror++) {
            for (int i = 0; i < 5; i++) {
                e.same("grade(" + mirror + ", " + i + ")", x.grade(mirror, i), GRADES[mirror][i]);
            }
        }
        LiftNovel tense = Scenes.stuckOften(1);
        tense.addMirror(0, 1);
        tense.addParagraph(1, 1, 0);
        Scenes.stopHere(tense, 1);
        e.same("grade(0, 1), 4 and a third of 10, less 3", tense.grade(0, 1), 4);
    }

    private static void sumsByEachMirror(Edge e) {
        LiftNovel x = reviewed();
        for (int mirror = 0; mirror < 4; mirror++) {
            int sum = 0;
            for (int grade : GRADES[mirror]) {
                sum += grade;
            }
            e.same("gradesBy(" + mirror + ")", x.gradesBy(mirror), sum);
        }
    }

    private static void favouritesOfEachMirror(Edge e) {
        LiftNovel x = reviewed();
        int[] due = {0, 1, 0, 0};
        for (int mirror = 0; mirror < 4; mirror++) {
            e.same("favouriteOf(" + mirror + ")", x.favouriteOf(mirror), due[mirror]);
        }
    }

    /** Of one more instalment each time, by its grade, which is not by its thrill alone. */
    private static void favourite(Edge e) {
        LiftNovel x = Scenes.chapter(new int[][] {{1, 9}, {2, 0}, {0, 0}, {1, 9}, {2, 9}, {0, 6}, {0, 9}});
        x.addMirror(0, 1);
        int[] due = {0, 0, 2, 2, 4, 5, 6};
        for (int i = 0; i < due.length; i++) {
            Scenes.stopHere(x, 1);
            e.same("favouriteOf(0) of " + (i + 1), x.favouriteOf(0), due[i]);
        }
    }

    /** By all grades together, not by the best one. */
    private static void kindest(Edge e) {
        LiftNovel x = reviewed();
        e.same("kindest(), sums of 27, 27, 30 and 25", x.kindest(), 2);
        LiftNovel y = Scenes.chapter(new int[][] {{0, 9}, {1, 0}, {1, 0}, {1, 0}});
        y.addMirror(0, 2);
        y.addMirror(1, 2);
        int[] due = {0, 0, 1, 1};
        for (int i = 0; i < due.length; i++) {
            Scenes.stopHere(y, 1);
            e.same("kindest() of " + (i + 1), y.kindest(), due[i]);
        }
    }
}
