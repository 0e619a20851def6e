/** Long runs of calls, on the program and on the model, with the same answers due. The runs are the same each time. */
final class ModelTests {
    private static final int RUNS = 400;
    private static final int CALLS = 120;

    private final Check check;
    private final LiftNovel x = new LiftNovel();
    private final Model model = new Model(6);
    private long seed;

    private ModelTests(Check check, long seed) {
        this.check = check;
        this.seed = seed;
    }

    static void run(Check check) {
        for (int run = 0; run < RUNS; run++) {
            ModelTests tests = new ModelTests(check, run);
            for (int call = 0; call < CALLS; call++) {
                tests.change();
                tests.compareState();
                if (call % 4 == 0) {
                    tests.compareForesight();
                }
            }
        }
    }

    /** A number from 0 to below bound, by a recurrence of its own, so that every machine makes the same runs. */
    private int some(int bound) {
        seed = seed * 6364136223846793005L + 1442695040888963407L;
        return (int) ((seed >>> 33) % bound);
    }

    private void change() {
        int kind = some(100);
        if (kind < 35) {
            addParagraph();
        } else if (kind < 60) {
            int floor = some(model.chapters.size());
            check.same(8, "call", x.call(floor) ? 1 : 0, model.called.add(floor) ? 1 : 0);
        } else if (kind < 78) {
            int hours = some(10) == 0 ? 1 + some(60) : 1 + some(6);
            check.same(10, "passHours", x.passHours(hours), model.passHours(hours));
        } else if (kind < 84) {
            int topic = some(8);
            check.same(4, "turnTopic", x.turnTopic(topic) ? 1 : 0, model.turnTopic(topic) ? 1 : 0);
        } else if (kind < 88) {
            setLimit(some(3) == 0 ? 1 + some(99) : 1 + some(12));
        } else if (kind < 93) {
            addReader();
        } else if (kind < 96) {
            addMirror();
        } else if (kind < 98) {
            check.same(9, "repair", x.repair(), model.repair());
        } else if (some(2) == 0) {
            int floors = 2 + some(11);
            check.same(2, "begin", x.begin(floors), model.begin(floors));
        }
    }

    private void addParagraph() {
        int floor = some(model.chapters.size());
        int topic = some(8);
        int thrill = some(10);
        if (model.chapters.get(floor).size() == 9) {
            check.noState(3, x, "addParagraph", () -> x.addParagraph(floor, topic, thrill));
        } else {
            check.same(3, "addParagraph", x.addParagraph(floor, topic, thrill),
                    model.addParagraph(floor, topic, thrill));
        }
    }

    private void setLimit(int limit) {
        check.same(5, "setLimit", x.setLimit(limit), model.limit);
        model.limit = limit;
    }

    private void addReader() {
        int taste = some(8);
        int warm = 1 + some(20);
        if (model.readers.size() == 8) {
            check.noState(6, x, "addReader", () -> x.addReader(taste, warm));
        } else {
            check.same(6, "addReader", x.addReader(taste, warm), model.addReader(taste, warm));
        }
    }

    private void addMirror() {
        int likes = some(8);
        int dislikes = (likes + 1 + some(7)) % 8;
        if (model.mirrors.size() == 4) {
            check.noState(7, x, "addMirror", () -> x.addMirror(likes, dislikes));
        } else {
            check.same(7, "addMirror", x.addMirror(likes, dislikes), model.addMirror(likes, dislikes));
        }
    }

    private void compareState() {
        check.same(11, "floors", x.floors(), model.chapters.size());
        check.same(12, "hours", x.hours(), model.hour);
        check.same(13, "liftAt", x.liftAt(), model.at);
        check.same(14, "goes", x.goes(), model.way);
        check.same(16, "calls", x.calls(), model.called.size());
        check.same(17, "stuckFor", x.stuckFor(), model.stuck);
        check.same(18, "wear", x.wear(), model.wear);
        check.same(19, "limit", x.limit(), model.limit);
        check.same(20, "suspense", x.suspense(), model.suspense);
        check.same(27, "cuts", x.cuts(), model.cuts());
        check.same(29, "instalments", x.instalments(), model.instalments.size());
        check.same(34, "mostThrilling", x.mostThrilling(), model.mostThrilling());
        check.same(35, "longestWait", x.longestWait(), model.longestWait());
        check.same(36, "climbs", x.climbs(), model.climbs());
        check.same(37, "readers", x.readers(), model.readers.size());
        check.same(38, "subscribers", x.subscribers(), model.subscribers());
        check.same(42, "warmest", x.warmest(), model.warmest());
        check.same(43, "mirrors", x.mirrors(), model.mirrors.size());
        check.same(47, "kindest", x.kindest(), model.kindest());
        check.same(54, "meanWarmth", x.meanWarmth(), model.meanWarmth());
        compareFloors();
        compareInstalments();
        comparePeople();
    }

    private void compareFloors() {
        for (int floor = 0; floor < model.chapters.size(); floor++) {
            check.same(15, "isCalled", x.isCalled(floor) ? 1 : 0, model.called.contains(floor) ? 1 : 0);
            check.same(21, "paragraphs", x.paragraphs(floor), model.chapters.get(floor).size());
            check.same(22, "nextParagraph", x.nextParagraph(floor), model.next(floor));
            check.same(25, "cutOn", x.cutOn(floor), model.cutOn(floor));
            for (int number = 0; number < model.chapters.get(floor).size(); number++) {
                Model.Paragraph paragraph = model.chapters.get(floor).get(number);
                check.same(23, "topicOf", x.topicOf(floor, number), paragraph.topic);
                check.same(24, "thrillOf", x.thrillOf(floor, number), paragraph.thrill);
            }
        }
        for (int topic = 0; topic < 8; topic++) {
            check.same(26, "isForbidden", x.isForbidden(topic) ? 1 : 0, model.forbidden.contains(topic) ? 1 : 0);
            check.same(28, "toCome", x.toCome(topic), model.toCome(topic));
        }
    }

    private void compareInstalments() {
        for (int i = 0; i < model.instalments.size(); i++) {
            Model.Instalment instalment = model.instalments.get(i);
            check.same(30, "floorIn", x.floorIn(i), instalment.floor);
            check.same(31, "paragraphIn", x.paragraphIn(i), instalment.number);
            check.same(32, "thrillIn", x.thrillIn(i), instalment.thrill);
            check.same(33, "hourIn", x.hourIn(i), instalment.hour);
        }
    }

    private void comparePeople() {
        for (int i = 0; i < model.readers.size(); i++) {
            Model.Reader reader = model.readers.get(i);
            check.same(39, "tasteOf", x.tasteOf(i), reader.taste);
            check.same(40, "warmthOf", x.warmthOf(i), reader.subscribes ? reader.warmth : 0);
            check.same(41, "isSubscriber", x.isSubscriber(i) ? 1 : 0, reader.subscribes ? 1 : 0);
        }
        for (int mirror = 0; mirror < model.mirrors.size(); mirror++) {
            check.same(45, "gradesBy", x.gradesBy(mirror), model.gradesBy(mirror));
            check.same(46, "favouriteOf", x.favouriteOf(mirror), model.favouriteOf(mirror));
            for (int i = 0; i < model.instalments.size(); i++) {
                check.same(44, "grade", x.grade(mirror, i), model.grade(mirror, i));
            }
        }
    }

    private void compareForesight() {
        int hours = 1 + some(40);
        for (int floor = 0; floor < model.chapters.size(); floor++) {
            check.same(48, "hoursUntilStop", x.hoursUntilStop(floor), model.hoursUntilStop(floor));
        }
        check.same(49, "hoursUntilStuck", x.hoursUntilStuck(), model.hoursUntilStuck());
        check.same(50, "printedIn", x.printedIn(hours), model.printedIn(hours));
        check.same(51, "subscribersIn", x.subscribersIn(hours), model.subscribersIn(hours));
        check.same(52, "bestToCall", x.bestToCall(hours), model.bestToCall(hours));
        check.same(53, "bestToAllow", x.bestToAllow(hours), model.bestToAllow(hours));
        check.same(55, "digest", x.digest(), DigestTests.of(x));
    }
}
