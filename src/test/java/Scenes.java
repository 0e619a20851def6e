/** Objects on which something has happened already. */
final class Scenes {
    /** Makes the same object each time. */
    interface Maker {
        LiftNovel make();
    }

    /** At rest and at work, empty and full, worn and stuck. */
    static final Maker[] MAKERS = {LiftNovel::new, Scenes::called, Scenes::told, Scenes::busy, Scenes::longSuspense,
        Scenes::sixtyHoursAhead, Scenes::fullAndCalled, () -> stuckOften(3), Scenes::censored, Scenes::partlyTold,
        Scenes::onItsWay, Scenes::stuckAndCalled};

    private Scenes() {
    }

    /** Six floors with chapters, two readers and two mirrors; the floors 0, 3 and 5 are called at the hour 0. */
    static LiftNovel called() {
        LiftNovel x = new LiftNovel();
        x.addParagraph(0, 1, 5);
        x.addParagraph(0, 2, 9);
        x.addParagraph(3, 1, 7);
        x.addParagraph(5, 3, 2);
        x.addReader(1, 3);
        x.addReader(2, 1);
        x.addMirror(1, 3);
        x.addMirror(2, 1);
        x.call(3);
        x.call(5);
        x.call(0);
        return x;
    }

    /** The same, six hours on: instalments with thrills 5, 7 and 2, printed in the hours 0, 3 and 5. */
    static LiftNovel told() {
        LiftNovel x = called();
        x.passHours(6);
        return x;
    }

    /** Twelve floors; the lift stands on this one, its wear is the floor's number, nothing is called. */
    static LiftNovel standingOn(int floor) {
        LiftNovel x = new LiftNovel();
        x.begin(12);
        if (floor > 0) {
            x.call(floor);
            x.passHours(floor);
        }
        return x;
    }

    /** A long way up with a limit of 1: a second instalment with a thrill of 109 is printed in the hour 21. */
    static LiftNovel longSuspense() {
        LiftNovel x = new LiftNovel();
        x.begin(12);
        x.setLimit(1);
        x.addParagraph(0, 0, 9);
        x.addParagraph(11, 0, 9);
        x.addReader(0, 20);
        x.addReader(1, 20);
        x.addMirror(1, 0);
        x.call(0);
        x.call(11);
        x.passHours(22);
        return x;
    }

    /** As much as there can be: 12 floors with 9 paragraphs each, 8 readers, 4 mirrors; and a limit of 99. */
    static LiftNovel full() {
        LiftNovel x = new LiftNovel();
        x.begin(12);
        x.setLimit(99);
        for (int number = 0; number < 9; number++) {
            for (int floor = 0; floor < 12; floor++) {
                x.addParagraph(floor, (floor + number) % 8, (floor * number) % 10);
            }
        }
        for (int reader = 0; reader < 8; reader++) {
            x.addReader(reader, 20);
        }
        for (int mirror = 0; mirror < 4; mirror++) {
            x.addMirror(mirror, 7 - mirror);
        }
        return x;
    }

    /** The same, all 108 paragraphs printed. */
    static LiftNovel allTold() {
        LiftNovel x = full();
        for (int round = 0; round < 9; round++) {
            callAll(x);
            x.passHours(60);
        }
        return x;
    }

    /** As much as there can be, and all floors called: in each of the next 12 hours an instalment is printed. */
    static LiftNovel fullAndCalled() {
        LiftNovel x = full();
        callAll(x);
        return x;
    }

    /** A full house, all floors but 5 called, three topics forbidden; the lift is on its way and gets stuck often. */
    static LiftNovel censored() {
        LiftNovel x = full();
        x.setLimit(3);
        x.turnTopic(1);
        x.turnTopic(4);
        x.turnTopic(6);
        x.call(7);
        x.passHours(5);
        for (int floor = 0; floor < 12; floor++) {
            if (floor != 5) {
                x.call(floor);
            }
        }
        return x;
    }

    /** A full house behind three rounds, in which two topics were forbidden. */
    static LiftNovel partlyTold() {
        LiftNovel x = full();
        x.turnTopic(2);
        x.turnTopic(5);
        for (int round = 0; round < 3; round++) {
            callAll(x);
            x.passHours(14);
        }
        return x;
    }

    /** Between the floors 5 and 11, on the floor 6, on its way up; what is printed on the floor 5 would be liked most. */
    static LiftNovel onItsWay() {
        LiftNovel x = standingOn(5);
        x.addReader(0, 20);
        x.addReader(1, 9);
        x.addParagraph(5, 0, 9);
        x.addParagraph(7, 1, 3);
        x.addParagraph(11, 0, 5);
        x.turnTopic(1);
        x.call(11);
        x.passHours(1);
        return x;
    }

    /** Stuck for 25 hours on the floor 5 of a full house, with all floors called and the topics 3 and 4 forbidden. */
    static LiftNovel stuckAndCalled() {
        LiftNovel x = stuckLong(worn(), 5);
        for (int floor = 0; floor < 12; floor++) {
            x.addParagraph(floor, floor % 8, floor % 10);
        }
        x.addReader(7, 20);
        x.addReader(5, 20);
        x.addReader(0, 3);
        x.turnTopic(3);
        x.turnTopic(4);
        callAll(x);
        x.passHours(12);
        return x;
    }

    static void callAll(LiftNovel x) {
        for (int floor = 0; floor < x.floors(); floor++) {
            x.call(floor);
        }
    }

    /** Nothing is at rest: two were printed, one cut, a reader has left; the lift is stuck on its way up. */
    static LiftNovel busy() {
        LiftNovel x = new LiftNovel();
        x.turnTopic(6);
        x.addParagraph(0, 1, 5);
        x.addParagraph(0, 6, 9);
        x.addParagraph(2, 2, 7);
        for (int number = 0; number < 9; number++) {
            x.addParagraph(4, number % 8, number);
        }
        for (int reader = 0; reader < 8; reader++) {
            x.addReader(reader, reader + 1);
        }
        for (int mirror = 0; mirror < 4; mirror++) {
            x.addMirror(mirror + 1, mirror);
        }
        x.setLimit(4);
        x.call(0);
        x.passHours(1);
        x.call(0);
        x.call(2);
        x.passHours(3);
        x.call(5);
        x.passHours(3);
        x.call(1);
        return x;
    }

    /** Twelve floors; the lift stands on the floor 0, its wear is 88, and the limit 99. */
    static LiftNovel worn() {
        LiftNovel x = standingOn(0);
        x.setLimit(99);
        for (int ride = 1; ride <= 8; ride++) {
            x.call(ride % 2 == 0 ? 0 : 11);
            x.passHours(11);
        }
        return x;
    }

    /** Sends a worn lift 11 floors, up and down to an odd one, where it stands, stuck for 25 hours; the limit is 1. */
    static LiftNovel stuckLong(LiftNovel worn, int floor) {
        int top = (11 + floor) / 2;
        worn.call(top);
        worn.passHours(top);
        if (floor != top) {
            worn.call(floor);
            worn.passHours(top - floor);
        }
        worn.setLimit(1);
        return worn;
    }

    /**
     * A lift that is stuck for 25 hours on the floor 7, goes down to 0 and up again, stuck for an hour behind each
     * floor: it stops on the floor 11 in the 60th hour.
     */
    static LiftNovel sixtyHoursAhead() {
        LiftNovel x = stuckLong(worn(), 7);
        x.call(4);
        x.call(0);
        x.call(11);
        return x;
    }

    /** A novel of a single chapter on the floor where the lift stands, with paragraphs of these topics and thrills. */
    static LiftNovel chapter(int[][] topicsAndThrills) {
        LiftNovel x = new LiftNovel();
        for (int[] paragraph : topicsAndThrills) {
            x.addParagraph(0, paragraph[0], paragraph[1]);
        }
        return x;
    }

    /** Calls the lift to the floor where it is, an hour each time. */
    static void stopHere(LiftNovel x, int times) {
        for (int stop = 0; stop < times; stop++) {
            x.call(x.liftAt());
            x.passHours(1);
        }
    }

    /** Two floors; behind an instalment of topic 7 and thrill 9 the lift was stuck so often, each time for an hour. */
    static LiftNovel stuckOften(int times) {
        LiftNovel x = new LiftNovel();
        x.begin(2);
        x.addParagraph(0, 7, 9);
        stopHere(x, 1);
        x.setLimit(1);
        for (int ride = 0; ride < times; ride++) {
            x.call(1 - x.liftAt());
            x.passHours(2);
        }
        return x;
    }
}
