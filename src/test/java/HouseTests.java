/** Promises 1 to 7: a new object, and the house. */
final class HouseTests {
    private HouseTests() {
    }

    static void run(Check check) {
        newObject(check);
        twoObjects(check);
        beginSizes(check);
        beginClears(check);
        beginWithWearAndAWay(check);
        beginKeeps(check);
        beginForgetsTheLatestThrill(check);
        addParagraph(check);
        addParagraphRefuses(check);
        turnTopic(check);
        setLimit(check);
        addReader(check);
        addMirror(check);
    }

    private static void newObject(Check check) {
        LiftNovel x = new LiftNovel();
        check.same(1, "floors()", x.floors(), 6);
        check.same(1, "hours()", x.hours(), 0);
        check.same(1, "liftAt()", x.liftAt(), 0);
        check.same(1, "goes()", x.goes(), 0);
        check.same(1, "calls()", x.calls(), 0);
        check.same(1, "stuckFor()", x.stuckFor(), 0);
        check.same(1, "wear()", x.wear(), 0);
        check.same(1, "limit()", x.limit(), 20);
        check.same(1, "suspense()", x.suspense(), 0);
        check.same(1, "cuts()", x.cuts(), 0);
        check.same(1, "instalments()", x.instalments(), 0);
        check.same(1, "readers()", x.readers(), 0);
        check.same(1, "subscribers()", x.subscribers(), 0);
        check.same(1, "mirrors()", x.mirrors(), 0);
        for (int floor = 0; floor < 6; floor++) {
            check.no(1, "isCalled(" + floor + ")", x.isCalled(floor));
            check.same(1, "paragraphs(" + floor + ")", x.paragraphs(floor), 0);
            check.same(1, "cutOn(" + floor + ")", x.cutOn(floor), 0);
        }
        for (int topic = 0; topic < 8; topic++) {
            check.no(1, "isForbidden(" + topic + ")", x.isForbidden(topic));
        }
    }

    private static void twoObjects(Check check) {
        LiftNovel quiet = new LiftNovel();
        String before = Snapshot.of(quiet);
        LiftNovel busy = Scenes.told();
        busy.turnTopic(6);
        busy.passHours(9);
        check.same(1, "another object", Snapshot.of(quiet), before);
    }

    private static void beginSizes(Check check) {
        LiftNovel x = new LiftNovel();
        for (int floors = 2; floors <= 12; floors++) {
            check.same(2, "begin(" + floors + ")", x.begin(floors), 0);
            check.same(2, "floors()", x.floors(), floors);
        }
        for (int floors : new int[] {1, 0, -1, 13, Integer.MIN_VALUE, Integer.MAX_VALUE}) {
            check.noArgument(2, x, "begin(" + floors + ")", () -> x.begin(floors));
        }
    }

    private static void beginClears(Check check) {
        LiftNovel x = new LiftNovel();
        x.begin(12);
        x.turnTopic(3);
        x.addParagraph(0, 3, 9);
        x.addParagraph(0, 1, 9);
        x.addParagraph(2, 1, 9);
        x.addParagraph(5, 3, 9);
        x.addParagraph(9, 1, 9);
        x.setLimit(7);
        x.call(0);
        x.call(2);
        x.call(5);
        x.call(11);
        x.passHours(9);
        x.call(0);
        check.same(2, "ahead of it: stuckFor()", x.stuckFor(), 1);
        check.same(2, "ahead of it: suspense()", x.suspense(), 10);
        check.same(2, "ahead of it: cuts()", x.cuts(), 2);
        x.begin(3);
        x.begin(12);
        for (int floor = 0; floor < 12; floor++) {
            check.same(2, "paragraphs(" + floor + ")", x.paragraphs(floor), 0);
            check.same(2, "nextParagraph(" + floor + ")", x.nextParagraph(floor), -1);
            check.same(2, "cutOn(" + floor + ")", x.cutOn(floor), 0);
            check.no(2, "isCalled(" + floor + ")", x.isCalled(floor));
        }
        check.same(2, "calls()", x.calls(), 0);
        check.same(2, "liftAt()", x.liftAt(), 0);
        check.same(2, "goes()", x.goes(), 0);
        check.same(2, "stuckFor()", x.stuckFor(), 0);
        check.same(2, "wear()", x.wear(), 0);
        check.same(2, "suspense()", x.suspense(), 0);
        check.same(2, "cuts()", x.cuts(), 0);
        check.same(2, "instalments()", x.instalments(), 0);
        check.same(2, "mostThrilling()", x.mostThrilling(), -1);
        check.same(2, "addParagraph(2, 0, 0)", x.addParagraph(2, 0, 0), 0);
        check.same(2, "nextParagraph(2)", x.nextParagraph(2), 0);
    }

    private static void beginWithWearAndAWay(Check check) {
        LiftNovel x = new LiftNovel();
        x.call(5);
        x.passHours(3);
        check.same(2, "ahead of it: wear()", x.wear(), 3);
        check.same(2, "ahead of it: goes()", x.goes(), 1);
        x.begin(6);
        check.same(2, "wear()", x.wear(), 0);
        check.same(2, "goes()", x.goes(), 0);
        check.same(2, "liftAt()", x.liftAt(), 0);
        check.same(2, "hours()", x.hours(), 3);
        LiftNovel y = Scenes.told();
        y.begin(6);
        y.addParagraph(5, 0, 0);
        y.call(5);
        y.passHours(5);
        check.same(2, "instalments() of the new novel", y.instalments(), 1);
        check.same(2, "longestWait() of the new novel", y.longestWait(), 0);
        check.same(2, "climbs() of the new novel", y.climbs(), 0);
        check.same(2, "hourIn(0), hours stay", y.hourIn(0), 10);
    }

    private static void beginKeeps(Check check) {
        LiftNovel x = new LiftNovel();
        x.setLimit(1);
        x.addParagraph(0, 4, 9);
        x.turnTopic(3);
        x.addReader(2, 1);
        x.addReader(4, 20);
        x.addReader(5, 7);
        x.addMirror(4, 5);
        x.call(1);
        x.passHours(2);
        check.same(2, "begin(4), one is no subscriber any more", x.begin(4), 2);
        check.yes(2, "isForbidden(3)", x.isForbidden(3));
        check.same(2, "limit()", x.limit(), 1);
        check.same(2, "hours()", x.hours(), 2);
        check.same(2, "readers()", x.readers(), 3);
        check.same(2, "warmthOf(1)", x.warmthOf(1), 18);
        check.same(2, "warmthOf(2)", x.warmthOf(2), 5);
        check.same(2, "tasteOf(1)", x.tasteOf(1), 4);
        check.no(2, "isSubscriber(0)", x.isSubscriber(0));
        check.same(2, "mirrors()", x.mirrors(), 1);
        check.same(2, "gradesBy(0)", x.gradesBy(0), 0);
    }

    private static void beginForgetsTheLatestThrill(Check check) {
        LiftNovel x = new LiftNovel();
        x.addParagraph(0, 0, 9);
        x.call(0);
        x.passHours(1);
        x.begin(2);
        x.setLimit(1);
        x.call(1);
        x.passHours(2);
        check.same(2, "suspense() without an instalment", x.suspense(), 1);
    }

    private static void addParagraph(Check check) {
        LiftNovel x = new LiftNovel();
        for (int number = 0; number < 9; number++) {
            check.same(3, "its number", x.addParagraph(5, number % 8, 9 - number), number);
            check.same(3, "paragraphs(5)", x.paragraphs(5), number + 1);
        }
        for (int number = 0; number < 9; number++) {
            check.same(3, "its topic", x.topicOf(5, number), number % 8);
            check.same(3, "its thrill", x.thrillOf(5, number), 9 - number);
        }
        check.same(3, "on another floor", x.addParagraph(4, 7, 0), 0);
        check.same(3, "paragraphs(5)", x.paragraphs(5), 9);
        x.call(4);
        x.passHours(4);
        check.same(3, "nextParagraph(4)", x.nextParagraph(4), -1);
        check.same(3, "behind a printed one", x.addParagraph(4, 0, 9), 1);
        check.same(3, "nextParagraph(4)", x.nextParagraph(4), 1);
    }

    private static void addParagraphRefuses(Check check) {
        LiftNovel x = new LiftNovel();
        for (int number = 0; number < 9; number++) {
            x.addParagraph(5, 1, 1);
        }
        x.call(5);
        x.passHours(5);
        check.noState(3, x, "a tenth one, one printed", () -> x.addParagraph(5, 0, 0));
        check.noIndex(3, x, "floor 6", () -> x.addParagraph(6, 0, 0));
        check.noIndex(3, x, "floor -1", () -> x.addParagraph(-1, 0, 0));
        check.noIndex(3, x, "floor 6, a wrong topic as well", () -> x.addParagraph(6, 8, 10));
        check.noIndex(3, x, "floor MAX", () -> x.addParagraph(Integer.MAX_VALUE, 0, 0));
        check.noIndex(3, x, "floor MIN", () -> x.addParagraph(Integer.MIN_VALUE, 0, 0));
        check.noArgument(3, x, "topic 8", () -> x.addParagraph(0, 8, 0));
        check.noArgument(3, x, "topic -1", () -> x.addParagraph(0, -1, 0));
        check.noArgument(3, x, "thrill 10", () -> x.addParagraph(0, 0, 10));
        check.noArgument(3, x, "thrill -1", () -> x.addParagraph(0, 0, -1));
        check.noArgument(3, x, "topic 8 in a full chapter", () -> x.addParagraph(5, 8, 0));
        check.noArgument(3, x, "thrill 10 in a full chapter", () -> x.addParagraph(5, 0, 10));
        x.begin(2);
        check.noIndex(3, x, "floor 2 of 2", () -> x.addParagraph(2, 0, 0));
        check.same(3, "addParagraph(1, 7, 9)", x.addParagraph(1, 7, 9), 0);
    }

    private static void turnTopic(Check check) {
        LiftNovel x = new LiftNovel();
        for (int topic = 0; topic < 8; topic++) {
            check.yes(4, "turnTopic(" + topic + ")", x.turnTopic(topic));
            check.yes(4, "isForbidden(" + topic + ")", x.isForbidden(topic));
        }
        check.no(4, "turnTopic(7) again", x.turnTopic(7));
        check.no(4, "isForbidden(7)", x.isForbidden(7));
        check.yes(4, "isForbidden(6)", x.isForbidden(6));
        check.yes(4, "turnTopic(7) once more", x.turnTopic(7));
        for (int topic : new int[] {-1, 8, Integer.MIN_VALUE, Integer.MAX_VALUE}) {
            check.noIndex(4, x, "turnTopic(" + topic + ")", () -> x.turnTopic(topic));
        }
    }

    private static void setLimit(Check check) {
        LiftNovel x = new LiftNovel();
        check.same(5, "setLimit(1)", x.setLimit(1), 20);
        check.same(5, "setLimit(99)", x.setLimit(99), 1);
        check.same(5, "limit()", x.limit(), 99);
        for (int limit : new int[] {0, 100, -1, Integer.MIN_VALUE, Integer.MAX_VALUE}) {
            check.noArgument(5, x, "setLimit(" + limit + ")", () -> x.setLimit(limit));
        }
    }

    private static void addReader(Check check) {
        LiftNovel x = new LiftNovel();
        check.noArgument(6, x, "taste 8", () -> x.addReader(8, 1));
        check.noArgument(6, x, "taste -1", () -> x.addReader(-1, 1));
        check.noArgument(6, x, "warm 0", () -> x.addReader(0, 0));
        check.noArgument(6, x, "warm 21", () -> x.addReader(0, 21));
        for (int number = 0; number < 8; number++) {
            int warm = number == 7 ? 20 : number + 1;
            check.same(6, "its number", x.addReader(7 - number, warm), number);
            check.same(6, "its taste", x.tasteOf(number), 7 - number);
            check.same(6, "its warmth", x.warmthOf(number), warm);
            check.yes(6, "isSubscriber()", x.isSubscriber(number));
        }
        check.noState(6, x, "a ninth reader", () -> x.addReader(0, 1));
        check.noArgument(6, x, "a ninth reader with taste 8", () -> x.addReader(8, 1));
        check.noArgument(6, x, "a ninth reader, not warm", () -> x.addReader(0, 0));
        x.passHours(30);
        check.same(6, "subscribers()", x.subscribers(), 0);
        check.noState(6, x, "a ninth reader when none is a subscriber", () -> x.addReader(0, 1));
    }

    private static void addMirror(Check check) {
        LiftNovel x = new LiftNovel();
        check.noArgument(7, x, "likes 8", () -> x.addMirror(8, 0));
        check.noArgument(7, x, "likes -1", () -> x.addMirror(-1, 0));
        check.noArgument(7, x, "dislikes 8", () -> x.addMirror(0, 8));
        check.noArgument(7, x, "dislikes -1", () -> x.addMirror(0, -1));
        check.noArgument(7, x, "both the same", () -> x.addMirror(5, 5));
        check.same(7, "addMirror(0, 7)", x.addMirror(0, 7), 0);
        check.same(7, "addMirror(7, 0)", x.addMirror(7, 0), 1);
        check.same(7, "addMirror(0, 7)", x.addMirror(0, 7), 2);
        check.same(7, "addMirror(3, 4)", x.addMirror(3, 4), 3);
        check.same(7, "mirrors()", x.mirrors(), 4);
        check.noState(7, x, "a fifth mirror", () -> x.addMirror(1, 2));
        check.noArgument(7, x, "a fifth mirror, both the same", () -> x.addMirror(1, 1));
        check.noArgument(7, x, "a fifth mirror, likes 8", () -> x.addMirror(8, 1));
        x.addParagraph(0, 7, 0);
        x.call(0);
        x.passHours(1);
        check.same(7, "grade of one that dislikes it", x.grade(0, 0), 1);
        check.same(7, "grade of one that likes it", x.grade(1, 0), 6);
        check.same(7, "grade of one that does neither", x.grade(3, 0), 4);
    }
}
