/** Boundary cases of the promises 43 to 47: mirrors. */
final class MirrorEdges {
    private static final String NO_MIRROR = "Throws `IndexOutOfBoundsException` if there is no such mirror";

    private MirrorEdges() {
    }

    static void run(Sentences all) {
        all.promise(43, "Returns how many mirrors there are", MirrorEdges::mirrors);
        all.promise(44, NO_MIRROR + ", or no such instalment", MirrorEdges::gradesAlone);
        all.promise(45, "Returns the sum of its grades for all instalments", MirrorEdges::sums);
        all.promise(45, NO_MIRROR, e -> e.mirrorsAlone(LiftNovel::gradesBy));
        all.promise(46, "of several the smallest number", MirrorEdges::severalFavourites);
        all.promise(46, "-1 without any", MirrorEdges::noFavourite);
        all.promise(46, NO_MIRROR, e -> e.mirrorsAlone(LiftNovel::favouriteOf));
        all.promise(47, "of several the smallest number", MirrorEdges::severalKindest);
        all.promise(47, "-1 without any", MirrorEdges::noneKindest);
    }

    private static void mirrors(Edge e) {
        LiftNovel x = new LiftNovel();
        e.same("mirrors(), none", x.mirrors(), 0);
        for (int number = 1; number <= 4; number++) {
            x.addMirror(0, 1);
            e.same("mirrors()", x.mirrors(), number);
        }
        e.noState(x, "a fifth one", () -> x.addMirror(0, 1));
        e.same("mirrors() behind a refused one", x.mirrors(), 4);
    }

    private static void gradesAlone(Edge e) {
        e.mirrorsAlone((x, mirror) -> x.grade(mirror, 0));
        e.instalmentsAlone((x, i) -> x.grade(0, i));
        LiftNovel none = new LiftNovel();
        e.noIndex(none, "neither a mirror nor an instalment", () -> none.grade(0, 0));
        none.addParagraph(0, 0, 0);
        Scenes.stopHere(none, 1);
        e.noIndex(none, "an instalment, but no mirror", () -> none.grade(0, 0));
        LiftNovel x = Scenes.told();
        e.noIndex(x, "neither such a mirror nor such an instalment", () -> x.grade(2, 3));
        e.same("grade(1, 2), the last ones", x.grade(1, 2), 4);
    }

    private static void sums(Edge e) {
        LiftNovel x = new LiftNovel();
        x.addMirror(0, 1);
        e.same("gradesBy(0) without instalments", x.gradesBy(0), 0);
        x.addParagraph(0, 1, 0);
        Scenes.stopHere(x, 1);
        e.same("gradesBy(0) with one", x.gradesBy(0), 1);
        x.begin(6);
        e.same("gradesBy(0) of another novel", x.gradesBy(0), 0);
        LiftNovel all = Scenes.allTold();
        for (int mirror = 0; mirror < 4; mirror++) {
            int sum = 0;
            for (int i = 0; i < 108; i++) {
                sum += all.grade(mirror, i);
            }
            e.same("gradesBy(" + mirror + "), of 108", all.gradesBy(mirror), sum);
        }
    }

    private static void severalFavourites(Edge e) {
        LiftNovel x = Scenes.chapter(new int[][] {{2, 5}, {1, 9}, {0, 3}, {2, 9}, {0, 4}, {0, 5}});
        x.addMirror(0, 1);
        x.addMirror(3, 0);
        Scenes.stopHere(x, 6);
        e.same("favouriteOf(0), four with the grade 7", x.favouriteOf(0), 2);
        e.same("favouriteOf(1), two with the grade 7", x.favouriteOf(1), 1);
        LiftNovel alike = Scenes.chapter(new int[][] {{1, 0}, {1, 1}, {1, 2}});
        alike.addMirror(0, 1);
        Scenes.stopHere(alike, 3);
        e.same("favouriteOf(0), all with the least grade", alike.favouriteOf(0), 0);
        LiftNovel tense = Scenes.stuckOften(2);
        tense.addMirror(0, 1);
        tense.addParagraph(0, 2, 9);
        Scenes.stopHere(tense, 1);
        for (int ride = 0; ride < 4; ride++) {
            tense.call(1 - tense.liftAt());
            tense.passHours(2);
        }
        tense.addParagraph(0, 0, 9);
        Scenes.stopHere(tense, 1);
        e.same("thrillIn(1)", tense.thrillIn(1), 29);
        e.same("thrillIn(2)", tense.thrillIn(2), 49);
        e.same("favouriteOf(0), both with the greatest grade", tense.favouriteOf(0), 1);
    }

    private static void noFavourite(Edge e) {
        LiftNovel x = Scenes.chapter(new int[][] {{1, 0}});
        x.addMirror(0, 1);
        e.same("favouriteOf(0), one to come", x.favouriteOf(0), -1);
        x.turnTopic(1);
        Scenes.stopHere(x, 1);
        e.same("favouriteOf(0), one cut", x.favouriteOf(0), -1);
        x.turnTopic(1);
        x.addParagraph(0, 1, 0);
        Scenes.stopHere(x, 1);
        e.same("favouriteOf(0) of one with the least grade", x.favouriteOf(0), 0);
        x.begin(6);
        e.same("favouriteOf(0) of another novel", x.favouriteOf(0), -1);
    }

    private static void severalKindest(Edge e) {
        LiftNovel x = Scenes.chapter(new int[][] {{0, 0}, {1, 0}});
        x.addMirror(2, 0);
        x.addMirror(0, 2);
        x.addMirror(0, 3);
        x.addMirror(1, 2);
        Scenes.stopHere(x, 1);
        e.same("kindest(), the second and the third alike", x.kindest(), 1);
        Scenes.stopHere(x, 1);
        e.same("kindest(), the second to the fourth alike", x.kindest(), 1);
        LiftNovel last = Scenes.chapter(new int[][] {{7, 0}});
        last.addMirror(2, 7);
        last.addMirror(2, 7);
        last.addMirror(2, 7);
        last.addMirror(7, 2);
        e.same("kindest(), four without instalments", last.kindest(), 0);
        Scenes.stopHere(last, 1);
        e.same("kindest(), the last one", last.kindest(), 3);
    }

    private static void noneKindest(Edge e) {
        LiftNovel x = Scenes.chapter(new int[][] {{0, 0}});
        e.same("kindest() without mirrors and instalments", x.kindest(), -1);
        Scenes.stopHere(x, 1);
        e.same("kindest() without mirrors", x.kindest(), -1);
        x.addMirror(1, 0);
        e.same("kindest() with one", x.kindest(), 0);
        LiftNovel first = new LiftNovel();
        first.addMirror(0, 1);
        e.same("kindest() with one, without instalments", first.kindest(), 0);
    }
}
