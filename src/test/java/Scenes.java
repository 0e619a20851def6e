/** Objects on which something has happened already. */
final class Scenes {
    private Scenes() {
    }

    /** Six floors with chapters, two readers and two mirrors; the floors 0, 3 and 5 are called at the hour 0. */
    static LiftNovel called() {
        LiftNovel x = new LiftNovel();
        x.addParagraph(0, 1, 5);
        x.addParagraph(0, 2, 9);
        x.addParagraph(3, 1, 7);
        x.addParagraph(5, 3, 2);
        x.addReader(1, 3);
        x.addReader(2, 1);
        x.addMirror(1, 3);
        x.addMirror(2, 1);
        x.call(3);
        x.call(5);
        x.call(0);
        return x;
    }

    /** The same, six hours on: instalments with thrills 5, 7 and 2, printed in the hours 0, 3 and 5. */
    static LiftNovel told() {
        LiftNovel x = called();
        x.passHours(6);
        return x;
    }

    /** Twelve floors; the lift stands on this one, its wear is the floor's number, nothing is called. */
    static LiftNovel standingOn(int floor) {
        LiftNovel x = new LiftNovel();
        x.begin(12);
        if (floor > 0) {
            x.call(floor);
            x.passHours(floor);
        }
        return x;
    }

    /** A long way up with a limit of 1: a second instalment with a thrill of 109 is printed in the hour 21. */
    static LiftNovel longSuspense() {
        LiftNovel x = new LiftNovel();
        x.begin(12);
        x.setLimit(1);
        x.addParagraph(0, 0, 9);
        x.addParagraph(11, 0, 9);
        x.addReader(0, 20);
        x.addReader(1, 20);
        x.addMirror(1, 0);
        x.call(0);
        x.call(11);
        x.passHours(22);
        return x;
    }
}
