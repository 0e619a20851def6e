/** What the promises 21 to 28 say beside their boundary cases: chapters. */
final class ChapterSentences {
    private ChapterSentences() {
    }

    static void run(Sentences all) {
        all.promise(21, "`floor`: a floor", ChapterSentences::floorWithParagraphs);
        all.promise(22, "`floor`: a floor", ChapterSentences::floorWithANext);
        all.promise(22, "Returns the next paragraph", ChapterSentences::next);
        all.promise(23, "`floor`: a floor", ChapterSentences::floorOfATopic);
        all.promise(23, "`paragraph`: a paragraph of it", ChapterSentences::paragraphOfATopic);
        all.promise(23, "Returns its topic", ChapterSentences::topic);
        all.promise(24, "`floor`: a floor", ChapterSentences::floorOfAThrill);
        all.promise(24, "`paragraph`: a paragraph of it", ChapterSentences::paragraphOfAThrill);
        all.promise(24, "Returns its thrill", ChapterSentences::thrill);
        all.promise(25, "`floor`: a floor", ChapterSentences::floorWithCuts);
        all.promise(26, "`topic`: a topic", ChapterSentences::topicThatMayBeForbidden);
        all.promise(26, "Returns whether it is forbidden", ChapterSentences::isForbidden);
        all.promise(28, "`topic`: a topic", ChapterSentences::topicToCome);
        all.promise(28, "Returns how many paragraphs of it", ChapterSentences::toCome);
    }

    private static void floorWithParagraphs(Edge e) {
        LiftNovel x = Scenes.standingOn(0);
        for (int floor = 0; floor < 12; floor++) {
            for (int number = 0; number < (floor * 5 + 2) % 10; number++) {
                x.addParagraph(floor, 0, 0);
            }
        }
        for (int floor = 0; floor < 12; floor++) {
            e.same("paragraphs(" + floor + ")", x.paragraphs(floor), (floor * 5 + 2) % 10);
        }
    }

    private static void floorWithANext(Edge e) {
        LiftNovel x = stoppedUpTo(3);
        int[] due = {3, 2, 1, 0};
        for (int floor = 0; floor < 12; floor++) {
            e.same("nextParagraph(" + floor + ")", x.nextParagraph(floor), floor < due.length ? due[floor] : 0);
        }
    }

    /** A full house, where the lift stopped on the floors 0 to n - 1, then 0 to n - 2, and so on. */
    private static LiftNovel stoppedUpTo(int most) {
        LiftNovel x = Scenes.full();
        for (int floors = most; floors > 0; floors--) {
            for (int floor = 0; floor < floors; floor++) {
                x.call(floor);
            }
            x.passHours(12);
        }
        return x;
    }

    private static void next(Edge e) {
        LiftNovel x = Scenes.chapter(new int[][] {{5, 1}, {6, 2}, {5, 3}, {6, 4}});
        x.turnTopic(6);
        for (int number = 0; number < 4; number++) {
            e.same("nextParagraph(0)", x.nextParagraph(0), number);
            x.addParagraph(0, 5, 0);
            e.same("nextParagraph(0), one more behind it", x.nextParagraph(0), number);
            int printed = x.instalments();
            Scenes.stopHere(x, 1);
            if (number % 2 == 0) {
                e.same("paragraphIn(), the next one it was", x.paragraphIn(printed), number);
            }
        }
    }

    private static void floorOfATopic(Edge e) {
        LiftNovel x = Scenes.full();
        for (int floor = 0; floor < 12; floor++) {
            e.same("topicOf(" + floor + ", 0)", x.topicOf(floor, 0), floor % 8);
        }
    }

    private static void paragraphOfATopic(Edge e) {
        LiftNovel x = Scenes.full();
        for (int paragraph = 0; paragraph < 9; paragraph++) {
            e.same("topicOf(0, " + paragraph + ")", x.topicOf(0, paragraph), paragraph % 8);
        }
    }

    /** It stays the same when the paragraph is printed, cut, or forbidden. */
    private static void topic(Edge e) {
        LiftNovel x = Scenes.full();
        x.turnTopic(3);
        for (int round = 0; round <= 9; round++) {
            for (int floor = 0; floor < 12; floor++) {
                for (int number = 0; number < 9; number++) {
                    e.same("topicOf(" + floor + ", " + number + ")", x.topicOf(floor, number), (floor + number) % 8);
                }
            }
            Scenes.callAll(x);
            x.passHours(60);
        }
    }

    private static void floorOfAThrill(Edge e) {
        LiftNovel x = Scenes.full();
        for (int floor = 0; floor < 12; floor++) {
            e.same("thrillOf(" + floor + ", 1)", x.thrillOf(floor, 1), floor % 10);
        }
    }

    private static void paragraphOfAThrill(Edge e) {
        LiftNovel x = Scenes.full();
        for (int paragraph = 0; paragraph < 9; paragraph++) {
            e.same("thrillOf(1, " + paragraph + ")", x.thrillOf(1, paragraph), paragraph);
        }
    }

    /** It stays the same when the paragraph is printed, with or without suspense, or cut. */
    private static void thrill(Edge e) {
        LiftNovel x = Scenes.stuckOften(2);
        x.addParagraph(0, 0, 4);
        x.addParagraph(0, 1, 6);
        x.addParagraph(0, 2, 8);
        x.turnTopic(2);
        int[] due = {9, 4, 6, 8};
        for (int stop = 0; stop <= 3; stop++) {
            for (int paragraph = 0; paragraph < due.length; paragraph++) {
                e.same("thrillOf(0, " + paragraph + ")", x.thrillOf(0, paragraph), due[paragraph]);
            }
            Scenes.stopHere(x, 1);
        }
        e.same("thrillIn(1), with the suspense", x.thrillIn(1), 24);
    }

    private static void floorWithCuts(Edge e) {
        LiftNovel x = Scenes.full();
        for (int topic = 0; topic < 8; topic++) {
            x.turnTopic(topic);
        }
        for (int floors = 4; floors > 0; floors--) {
            for (int floor = 0; floor < floors; floor++) {
                x.call(floor);
            }
            x.passHours(12);
        }
        for (int floor = 0; floor < 12; floor++) {
            e.same("cutOn(" + floor + ")", x.cutOn(floor), Math.max(0, 4 - floor));
        }
    }

    private static void topicThatMayBeForbidden(Edge e) {
        LiftNovel x = new LiftNovel();
        for (int topic = 1; topic < 8; topic += 3) {
            x.turnTopic(topic);
        }
        for (int topic = 0; topic < 8; topic++) {
            e.same("isForbidden(" + topic + ")", x.isForbidden(topic) ? 1 : 0, topic % 3 == 1 ? 1 : 0);
        }
    }

    /** Forbidden or not, as it was turned last, in another novel too. */
    private static void isForbidden(Edge e) {
        LiftNovel x = new LiftNovel();
        e.no("isForbidden(5)", x.isForbidden(5));
        x.turnTopic(5);
        e.yes("isForbidden(5), turned", x.isForbidden(5));
        x.passHours(60);
        x.begin(2);
        e.yes("isForbidden(5) in another novel", x.isForbidden(5));
        x.bestToAllow(40);
        e.yes("isForbidden(5), asked about its allowing", x.isForbidden(5));
        x.turnTopic(5);
        e.no("isForbidden(5), turned again", x.isForbidden(5));
    }

    private static void topicToCome(Edge e) {
        LiftNovel x = Scenes.standingOn(0);
        for (int topic = 0; topic < 8; topic++) {
            for (int number = 0; number < topic + 1; number++) {
                x.addParagraph((topic + number) % 12, topic, 0);
            }
        }
        for (int topic = 0; topic < 8; topic++) {
            e.same("toCome(" + topic + ")", x.toCome(topic), topic + 1);
        }
    }

    /** One fewer for each that is printed or cut, of its own topic alone. */
    private static void toCome(Edge e) {
        LiftNovel x = Scenes.chapter(new int[][] {{3, 0}, {4, 0}, {3, 0}, {4, 0}, {3, 0}});
        x.turnTopic(4);
        int[][] dueOf3And4 = {{3, 2}, {2, 2}, {2, 1}, {1, 1}, {1, 0}, {0, 0}};
        for (int[] due : dueOf3And4) {
            e.same("toCome(3)", x.toCome(3), due[0]);
            e.same("toCome(4)", x.toCome(4), due[1]);
            e.same("toCome(5)", x.toCome(5), 0);
            Scenes.stopHere(x, 1);
        }
    }
}
