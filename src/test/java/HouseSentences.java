/** What the promises 2 to 7 say beside their boundary cases: the house. */
final class HouseSentences {
    private HouseSentences() {
    }

    static void run(Sentences all) {
        all.promise(2, "Begins another novel", HouseSentences::anotherNovel);
        all.promise(2, "`floors`: how many floors there are", HouseSentences::floors);
        all.promise(3, "`floor`: the floor of a new paragraph", HouseSentences::floorOfAParagraph);
        all.promise(3, "`topic`: its topic", HouseSentences::topicOfAParagraph);
        all.promise(3, "`thrill`: its thrill", HouseSentences::thrillOfAParagraph);
        all.promise(3, "Returns its number", HouseSentences::numberOfAParagraph);
        all.promise(4, "`topic`: the topic", HouseSentences::topicThatIsTurned);
        all.promise(4, "Returns whether it is forbidden then", HouseSentences::forbiddenThen);
        all.promise(5, "`limit`: the limit from now on", HouseSentences::limitFromNowOn);
        all.promise(6, "`taste`: the taste of a new reader", HouseSentences::tasteOfAReader);
        all.promise(6, "`warm`: how warm it is", HouseSentences::warmthOfAReader);
        all.promise(7, "`likes`: the topic that a new mirror likes", HouseSentences::topicThatAMirrorLikes);
        all.promise(7, "`dislikes`: the one that it dislikes", HouseSentences::topicThatAMirrorDislikes);
    }

    /** Behind it the same calls are answered as by a new object for which as many hours went by. */
    private static void anotherNovel(Edge e) {
        LiftNovel x = Scenes.chapter(new int[][] {{0, 9}, {1, 9}, {2, 9}});
        Scenes.stopHere(x, 2);
        x.call(5);
        x.call(3);
        x.passHours(4);
        x.begin(6);
        LiftNovel made = new LiftNovel();
        made.passHours(6);
        e.same("all answers", Snapshot.of(x), Snapshot.of(made));
        for (LiftNovel novel : new LiftNovel[] {x, made}) {
            novel.addParagraph(1, 3, 1);
            novel.addParagraph(2, 4, 2);
            novel.addReader(4, 9);
            novel.setLimit(1);
            novel.call(2);
        }
        for (int hour = 1; hour <= 6; hour++) {
            x.passHours(1);
            made.passHours(1);
            e.same("all answers, " + hour + " hours on", Snapshot.of(x), Snapshot.of(made));
        }
        e.same("thrillIn(0), stuck for an hour without an instalment", x.thrillIn(0), 3);
    }

    private static void floors(Edge e) {
        LiftNovel x = new LiftNovel();
        x.setLimit(99);
        for (int floors = 12; floors >= 2; floors--) {
            x.begin(floors);
            int highest = floors - 1;
            e.same("floors()", x.floors(), floors);
            e.yes("call(" + highest + ")", x.call(highest));
            e.noIndex(x, "call(" + floors + ")", () -> x.call(highest + 1));
            x.passHours(12);
            e.same("liftAt()", x.liftAt(), highest);
        }
    }

    /** On every floor another number of them: 0 to 9 on the floors 0 to 9, and again 0 and 1. */
    private static LiftNovel staircase() {
        LiftNovel x = Scenes.standingOn(0);
        for (int number = 8; number >= 0; number--) {
            for (int floor = 11; floor >= 0; floor--) {
                if (floor % 10 > number) {
                    x.addParagraph(floor, (floor + x.paragraphs(floor)) % 8, x.paragraphs(floor) + floor / 10);
                }
            }
        }
        return x;
    }

    private static void floorOfAParagraph(Edge e) {
        LiftNovel x = staircase();
        for (int floor = 0; floor < 12; floor++) {
            e.same("paragraphs(" + floor + ")", x.paragraphs(floor), floor % 10);
        }
    }

    private static void topicOfAParagraph(Edge e) {
        LiftNovel x = staircase();
        for (int floor = 0; floor < 12; floor++) {
            for (int number = 0; number < floor % 10; number++) {
                e.same("topicOf(" + floor + ", " + number + ")", x.topicOf(floor, number), (floor + number) % 8);
            }
        }
    }

    private static void thrillOfAParagraph(Edge e) {
        LiftNovel x = staircase();
        for (int floor = 0; floor < 12; floor++) {
            for (int number = 0; number < floor % 10; number++) {
                e.same("thrillOf(" + floor + ", " + number + ")", x.thrillOf(floor, number), number + floor / 10);
            }
        }
    }

    /** Behind printed and cut ones it goes on. */
    private static void numberOfAParagraph(Edge e) {
        LiftNovel x = new LiftNovel();
        x.turnTopic(1);
        for (int number = 0; number < 9; number++) {
            e.same("addParagraph(0, " + number % 2 + ", 0)", x.addParagraph(0, number % 2, 0), number);
            Scenes.stopHere(x, 1);
        }
        e.same("instalments()", x.instalments(), 5);
        e.same("cuts()", x.cuts(), 4);
    }

    private static void topicThatIsTurned(Edge e) {
        for (int turned = 0; turned < 8; turned++) {
            LiftNovel x = new LiftNovel();
            x.turnTopic(turned);
            for (int topic = 0; topic < 8; topic++) {
                e.same("isForbidden(" + topic + ")", x.isForbidden(topic) ? 1 : 0, topic == turned ? 1 : 0);
            }
        }
    }

    private static void forbiddenThen(Edge e) {
        LiftNovel x = new LiftNovel();
        for (int times = 1; times <= 3; times++) {
            for (int topic = 0; topic < 8; topic++) {
                e.same("turnTopic(" + topic + "), " + times + " times", x.turnTopic(topic) ? 1 : 0, times % 2);
                e.same("isForbidden(" + topic + ")", x.isForbidden(topic) ? 1 : 0, times % 2);
            }
        }
    }

    /** For this novel and the next one, and not for what was ahead of it. */
    private static void limitFromNowOn(Edge e) {
        LiftNovel x = Scenes.standingOn(3);
        x.setLimit(5);
        e.same("limit()", x.limit(), 5);
        x.call(11);
        x.passHours(1);
        e.same("stuckFor() by a wear of 4", x.stuckFor(), 0);
        x.setLimit(6);
        x.passHours(1);
        e.same("stuckFor() by a wear of 5, the limit of before", x.stuckFor(), 0);
        x.passHours(1);
        e.same("stuckFor() by a wear of 6", x.stuckFor(), 2);
        x.setLimit(99);
        e.same("stuckFor(), stuck by the limit of before", x.stuckFor(), 2);
        x.setLimit(2);
        x.begin(12);
        e.same("limit() of another novel", x.limit(), 2);
        x.call(11);
        x.passHours(2);
        e.same("stuckFor() in another novel", x.stuckFor(), 1);
    }

    private static void tasteOfAReader(Edge e) {
        LiftNovel x = new LiftNovel();
        for (int reader = 0; reader < 8; reader++) {
            x.addReader((reader * 3 + 2) % 8, 5);
            for (int earlier = 0; earlier <= reader; earlier++) {
                e.same("tasteOf(" + earlier + ")", x.tasteOf(earlier), (earlier * 3 + 2) % 8);
            }
        }
    }

    private static void warmthOfAReader(Edge e) {
        for (int first = 1; first <= 13; first++) {
            LiftNovel x = new LiftNovel();
            for (int reader = 0; reader < 8; reader++) {
                x.addReader(0, first + reader);
                for (int earlier = 0; earlier <= reader; earlier++) {
                    e.same("warmthOf(" + earlier + ")", x.warmthOf(earlier), first + earlier);
                }
            }
        }
    }

    /** Two mirrors for each two topics, the one for the other's dislike; all topics without thrill. */
    private static LiftNovel mirrored(int first) {
        LiftNovel x = new LiftNovel();
        for (int topic = 0; topic < 8; topic++) {
            x.addParagraph(0, topic, 0);
        }
        x.addMirror(first, first + 1);
        x.addMirror(first + 1, first);
        x.addMirror(first + 2, first + 3);
        x.addMirror(first + 3, first + 2);
        Scenes.stopHere(x, 8);
        return x;
    }

    private static void topicThatAMirrorLikes(Edge e) {
        for (int first : new int[] {0, 4}) {
            LiftNovel x = mirrored(first);
            for (int mirror = 0; mirror < 4; mirror++) {
                e.same("grade() of what it likes", x.grade(mirror, first + mirror), 6);
                e.same("favouriteOf(" + mirror + ")", x.favouriteOf(mirror), first + mirror);
            }
        }
    }

    private static void topicThatAMirrorDislikes(Edge e) {
        for (int first : new int[] {0, 4}) {
            LiftNovel x = mirrored(first);
            int[] disliked = {first + 1, first, first + 3, first + 2};
            for (int mirror = 0; mirror < 4; mirror++) {
                e.same("grade() of what it dislikes", x.grade(mirror, disliked[mirror]), 1);
                e.same("gradesBy(" + mirror + ")", x.gradesBy(mirror), 6 + 1 + 6 * 4);
            }
        }
    }
}
