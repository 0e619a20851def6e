/** Boundary cases of the promises 1 to 7: a new object, and the house. */
final class HouseEdges {
    private static final String NO_FLOOR = "Throws `IndexOutOfBoundsException` if there is no such floor";

    private HouseEdges() {
    }

    static void run(Sentences all) {
        all.promise(1, "Creates a lift on the floor 0 of 6", HouseEdges::newLift);
        all.promise(1, "with empty chapters", HouseEdges::newChapters);
        all.promise(1, "without readers and mirrors", HouseEdges::newPeople);
        all.promise(1, "at the hour 0", HouseEdges::newHour);
        all.promise(2, "floors without paragraphs, instalments and calls", HouseEdges::beginEmpties);
        all.promise(2, "the lift stands on the floor 0, not stuck, without wear and suspense", HouseEdges::beginLift);
        all.promise(2, "what is forbidden, the limit, readers, mirrors and hours stay", HouseEdges::beginKeeps);
        all.promise(2, "Returns how many readers are subscribers", HouseEdges::beginAnswers);
        all.promise(2, "Throws `IllegalArgumentException` if floors is not 2 to 12", HouseEdges::beginOutside);
        all.promise(3, "behind the others of its chapter", HouseEdges::paragraphNumbers);
        all.promise(3, NO_FLOOR, e -> e.floorsAlone((x, floor) -> x.addParagraph(floor, 0, 0)));
        all.promise(3, "Throws `IllegalArgumentException` if topic is not 0 to 7, or thrill is not 0 to 9",
                HouseEdges::paragraphOutside);
        all.promise(3, "Throws `IllegalStateException` if the chapter has 9", HouseEdges::tenthParagraph);
        all.promise(4, "Forbids a topic that is not forbidden, and allows one that is", HouseEdges::turnTopic);
        all.promise(4, "Throws `IndexOutOfBoundsException` if topic is not 0 to 7", e -> e.topicsAlone(LiftNovel::turnTopic));
        all.promise(5, "Returns the one before", HouseEdges::limitBefore);
        all.promise(5, "Throws `IllegalArgumentException` if limit is not 1 to 99", HouseEdges::limitOutside);
        all.promise(6, "Returns its number", HouseEdges::readerNumbers);
        all.promise(6, "Throws `IllegalArgumentException` if taste is not 0 to 7, or warm is not 1 to 20",
                HouseEdges::readerOutside);
        all.promise(6, "Throws `IllegalStateException` if there are 8", HouseEdges::ninthReader);
        all.promise(7, "Returns its number", HouseEdges::mirrorNumbers);
        all.promise(7, "Throws `IllegalArgumentException` if one of them is not 0 to 7, or both are the same",
                HouseEdges::mirrorOutside);
        all.promise(7, "Throws `IllegalStateException` if there are 4", HouseEdges::fifthMirror);
    }

    private static void newLift(Edge e) {
        LiftNovel x = new LiftNovel();
        e.same("liftAt()", x.liftAt(), 0);
        e.same("floors()", x.floors(), 6);
        e.same("calls()", x.calls(), 0);
        e.yes("call(5), the highest", x.call(5));
        e.noIndex(x, "call(6)", () -> x.call(6));
    }

    private static void newChapters(Edge e) {
        LiftNovel x = new LiftNovel();
        for (int floor = 0; floor < 6; floor++) {
            int empty = floor;
            e.same("paragraphs(" + floor + ")", x.paragraphs(floor), 0);
            e.same("nextParagraph(" + floor + ")", x.nextParagraph(floor), -1);
            e.same("cutOn(" + floor + ")", x.cutOn(floor), 0);
            e.noIndex(x, "topicOf(" + floor + ", 0)", () -> x.topicOf(empty, 0));
        }
        for (int topic = 0; topic < 8; topic++) {
            e.same("toCome(" + topic + ")", x.toCome(topic), 0);
        }
        e.same("cuts()", x.cuts(), 0);
        e.same("instalments()", x.instalments(), 0);
    }

    private static void newPeople(Edge e) {
        LiftNovel x = new LiftNovel();
        e.same("readers()", x.readers(), 0);
        e.same("subscribers()", x.subscribers(), 0);
        e.same("mirrors()", x.mirrors(), 0);
        e.noIndex(x, "tasteOf(0)", () -> x.tasteOf(0));
        e.noIndex(x, "gradesBy(0)", () -> x.gradesBy(0));
        e.same("addReader(), the first one", x.addReader(0, 1), 0);
        e.same("addMirror(), the first one", x.addMirror(0, 1), 0);
    }

    private static void newHour(Edge e) {
        LiftNovel x = new LiftNovel();
        e.same("hours()", x.hours(), 0);
        LiftNovel later = new LiftNovel();
        later.passHours(60);
        e.same("hours() of one made behind hours of another", new LiftNovel().hours(), 0);
    }

    /** From a full house with printed and cut paragraphs and all floors called; by way of the smallest house. */
    private static void beginEmpties(Edge e) {
        for (int floorsBetween : new int[] {12, 2}) {
            LiftNovel x = Scenes.full();
            x.turnTopic(0);
            Scenes.callAll(x);
            x.passHours(12);
            Scenes.callAll(x);
            e.same("instalments() ahead of it", x.instalments(), 10);
            e.same("cuts() ahead of it", x.cuts(), 2);
            x.begin(floorsBetween);
            e.same("calls(), " + floorsBetween + " floors", x.calls(), 0);
            x.passHours(9);
            e.same("wear(), none called", x.wear(), 0);
            x.begin(12);
            e.same("instalments()", x.instalments(), 0);
            e.same("calls()", x.calls(), 0);
            e.same("cuts()", x.cuts(), 0);
            for (int floor = 0; floor < 12; floor++) {
                int empty = floor;
                e.no("isCalled(" + floor + ")", x.isCalled(floor));
                e.same("paragraphs(" + floor + ")", x.paragraphs(floor), 0);
                e.same("nextParagraph(" + floor + ")", x.nextParagraph(floor), -1);
                e.same("cutOn(" + floor + ")", x.cutOn(floor), 0);
                e.noIndex(x, "thrillOf(" + floor + ", 0)", () -> x.thrillOf(empty, 0));
            }
            e.noIndex(x, "floorIn(0)", () -> x.floorIn(0));
            fillAgain(e, x);
        }
    }

    private static void fillAgain(Edge e, LiftNovel x) {
        for (int number = 0; number < 9; number++) {
            e.same("addParagraph(0, 1, 9)", x.addParagraph(0, 1, 9), number);
            e.same("nextParagraph(0)", x.nextParagraph(0), 0);
        }
    }

    private static void beginLift(Edge e) {
        LiftNovel stuck = Scenes.busy();
        e.same("stuckFor() ahead of it", stuck.stuckFor(), 1);
        e.same("suspense() ahead of it", stuck.suspense(), 8);
        e.same("goes() ahead of it", stuck.goes(), 1);
        LiftNovel worn = Scenes.worn();
        worn.call(11);
        worn.passHours(10);
        e.same("wear() ahead of it", worn.wear(), 98);
        for (LiftNovel x : new LiftNovel[] {stuck, worn, Scenes.stuckLong(Scenes.worn(), 11)}) {
            x.begin(12);
            e.same("liftAt()", x.liftAt(), 0);
            e.same("goes()", x.goes(), 0);
            e.same("stuckFor()", x.stuckFor(), 0);
            e.same("wear()", x.wear(), 0);
            e.same("suspense()", x.suspense(), 0);
        }
    }

    private static void beginKeeps(Edge e) {
        LiftNovel x = Scenes.full();
        x.turnTopic(0);
        x.turnTopic(7);
        x.passHours(60);
        x.begin(2);
        for (int topic = 0; topic < 8; topic++) {
            e.same("isForbidden(" + topic + ")", x.isForbidden(topic) ? 1 : 0, topic % 7 == 0 ? 1 : 0);
        }
        e.same("limit()", x.limit(), 99);
        e.same("readers()", x.readers(), 8);
        e.same("tasteOf(7)", x.tasteOf(7), 7);
        e.same("subscribers()", x.subscribers(), 0);
        e.same("mirrors()", x.mirrors(), 4);
        e.same("hours()", x.hours(), 60);
        LiftNovel y = Scenes.full();
        y.begin(12);
        e.same("subscribers()", y.subscribers(), 8);
        e.same("warmthOf(7)", y.warmthOf(7), 20);
        y.addParagraph(0, 3, 0);
        Scenes.stopHere(y, 1);
        e.same("grade(3, 0) of one that likes 3", y.grade(3, 0), 6);
    }

    private static void beginAnswers(Edge e) {
        LiftNovel none = new LiftNovel();
        e.same("begin(2) without readers", none.begin(2), 0);
        LiftNovel x = Scenes.full();
        e.same("begin(2) with 8 readers", x.begin(2), 8);
        x.passHours(20);
        e.same("begin(2) with 8 who are not warm", x.begin(2), 8);
        x.passHours(1);
        e.same("begin(2) when all have left", x.begin(2), 0);
    }

    private static void beginOutside(Edge e) {
        LiftNovel x = Scenes.busy();
        e.argumentOutside(x, 2, 12, floors -> x.begin(floors));
        e.same("begin(2)", x.begin(2), 7);
        e.same("floors()", x.floors(), 2);
        e.same("begin(12)", x.begin(12), 7);
        e.same("floors()", x.floors(), 12);
    }

    private static void paragraphNumbers(Edge e) {
        LiftNovel x = new LiftNovel();
        x.begin(12);
        for (int number = 0; number < 9; number++) {
            e.same("addParagraph(0, 7, " + number + ")", x.addParagraph(0, 7, number), number);
            e.same("addParagraph(11, 0, " + number + ")", x.addParagraph(11, 0, 9 - number), number);
        }
        for (int number = 0; number < 9; number++) {
            e.same("thrillOf(0, " + number + ")", x.thrillOf(0, number), number);
            e.same("thrillOf(11, " + number + ")", x.thrillOf(11, number), 9 - number);
        }
        e.same("paragraphs(1)", x.paragraphs(1), 0);
        e.same("paragraphs(10)", x.paragraphs(10), 0);
    }

    private static void paragraphOutside(Edge e) {
        LiftNovel x = new LiftNovel();
        e.argumentOutside(x, 0, 7, topic -> x.addParagraph(0, topic, 0));
        e.argumentOutside(x, 0, 9, thrill -> x.addParagraph(0, 0, thrill));
        e.same("addParagraph(0, 0, 0)", x.addParagraph(0, 0, 0), 0);
        e.same("addParagraph(0, 7, 9)", x.addParagraph(0, 7, 9), 1);
        e.same("topicOf(0, 0)", x.topicOf(0, 0), 0);
        e.same("topicOf(0, 1)", x.topicOf(0, 1), 7);
        e.same("thrillOf(0, 0)", x.thrillOf(0, 0), 0);
        e.same("thrillOf(0, 1)", x.thrillOf(0, 1), 9);
    }

    private static void tenthParagraph(Edge e) {
        LiftNovel x = new LiftNovel();
        for (int number = 0; number < 8; number++) {
            x.addParagraph(0, number, 1);
        }
        e.same("the ninth one", x.addParagraph(0, 0, 1), 8);
        e.noState(x, "a tenth one", () -> x.addParagraph(0, 0, 1));
        e.same("the first one of another chapter", x.addParagraph(1, 0, 1), 0);
        x.turnTopic(1);
        Scenes.stopHere(x, 9);
        e.same("cutOn(0)", x.cutOn(0), 1);
        e.same("nextParagraph(0)", x.nextParagraph(0), -1);
        e.noState(x, "a tenth one when all were printed or cut", () -> x.addParagraph(0, 0, 1));
    }

    private static void turnTopic(Edge e) {
        LiftNovel x = new LiftNovel();
        for (int topic : new int[] {0, 7}) {
            e.yes("turnTopic(" + topic + ")", x.turnTopic(topic));
            e.yes("isForbidden(" + topic + ")", x.isForbidden(topic));
            e.no("turnTopic(" + topic + ") again", x.turnTopic(topic));
            e.no("isForbidden(" + topic + ") again", x.isForbidden(topic));
            e.yes("turnTopic(" + topic + ") a third time", x.turnTopic(topic));
        }
        for (int topic = 1; topic < 7; topic++) {
            e.no("isForbidden(" + topic + ")", x.isForbidden(topic));
        }
    }

    private static void limitBefore(Edge e) {
        LiftNovel x = new LiftNovel();
        e.same("setLimit(1), the first one", x.setLimit(1), 20);
        e.same("setLimit(99)", x.setLimit(99), 1);
        e.noArgument(x, "setLimit(100)", () -> x.setLimit(100));
        e.same("setLimit(99) behind a refused one", x.setLimit(99), 99);
    }

    private static void limitOutside(Edge e) {
        LiftNovel x = new LiftNovel();
        e.argumentOutside(x, 1, 99, limit -> x.setLimit(limit));
        x.setLimit(1);
        e.same("limit()", x.limit(), 1);
        x.setLimit(99);
        e.same("limit()", x.limit(), 99);
    }

    private static void readerNumbers(Edge e) {
        LiftNovel x = new LiftNovel();
        for (int number = 0; number < 8; number++) {
            e.same("addReader()", x.addReader(number, 1), number);
            x.passHours(2);
            e.same("subscribers(), the others have left", x.subscribers(), 0);
        }
    }

    private static void readerOutside(Edge e) {
        LiftNovel x = new LiftNovel();
        e.argumentOutside(x, 0, 7, taste -> x.addReader(taste, 1));
        e.argumentOutside(x, 1, 20, warm -> x.addReader(0, warm));
        e.same("addReader(0, 1)", x.addReader(0, 1), 0);
        e.same("addReader(7, 20)", x.addReader(7, 20), 1);
        e.same("tasteOf(0)", x.tasteOf(0), 0);
        e.same("tasteOf(1)", x.tasteOf(1), 7);
        e.same("warmthOf(0)", x.warmthOf(0), 1);
        e.same("warmthOf(1)", x.warmthOf(1), 20);
    }

    private static void ninthReader(Edge e) {
        LiftNovel x = new LiftNovel();
        for (int number = 0; number < 7; number++) {
            x.addReader(0, 1);
        }
        e.same("the eighth one", x.addReader(0, 1), 7);
        e.noState(x, "a ninth one", () -> x.addReader(0, 1));
        x.passHours(2);
        e.same("subscribers()", x.subscribers(), 0);
        e.noState(x, "a ninth one when all have left", () -> x.addReader(7, 20));
        x.begin(6);
        e.noState(x, "a ninth one in another novel", () -> x.addReader(7, 20));
    }

    private static void mirrorNumbers(Edge e) {
        LiftNovel x = new LiftNovel();
        for (int number = 0; number < 4; number++) {
            e.same("addMirror(), the same each time", x.addMirror(0, 7), number);
            e.same("mirrors()", x.mirrors(), number + 1);
        }
    }

    private static void mirrorOutside(Edge e) {
        LiftNovel x = new LiftNovel();
        e.argumentOutside(x, 0, 7, likes -> x.addMirror(likes, likes == 1 ? 2 : 1));
        e.argumentOutside(x, 0, 7, dislikes -> x.addMirror(6, dislikes));
        for (int topic = 0; topic < 8; topic++) {
            int both = topic;
            e.noArgument(x, "addMirror(" + both + ", " + both + ")", () -> x.addMirror(both, both));
        }
        e.noArgument(x, "addMirror(8, 8)", () -> x.addMirror(8, 8));
        e.same("addMirror(0, 7)", x.addMirror(0, 7), 0);
        e.same("addMirror(7, 0)", x.addMirror(7, 0), 1);
        e.same("addMirror(0, 1)", x.addMirror(0, 1), 2);
    }

    private static void fifthMirror(Edge e) {
        LiftNovel x = new LiftNovel();
        x.addMirror(0, 1);
        x.addMirror(1, 2);
        x.addMirror(2, 3);
        e.same("the fourth one", x.addMirror(3, 4), 3);
        e.noState(x, "a fifth one", () -> x.addMirror(4, 5));
        e.noState(x, "a fifth one, like the first", () -> x.addMirror(0, 1));
        x.begin(6);
        e.noState(x, "a fifth one in another novel", () -> x.addMirror(4, 5));
    }
}
