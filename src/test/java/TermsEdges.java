/** Boundary cases of the terms, but for the course of an hour and what is refused; and of how long an object is used. */
final class TermsEdges {
    private TermsEdges() {
    }

    static void run(Sentences all) {
        all.use(55, "An object is used for at most 512 calls after it has been made", TermsEdges::lastCall);
        all.terms(40, "/ is cut towards 0", TermsEdges::thirdOfAThrill);
        all.terms(17, "/ is cut towards 0", TermsEdges::quarterOfALimit);
        all.terms(12, "Time is told in hours, from 0", TermsEdges::hoursFromZero);
        all.terms(11, "Floors. There are 2 to 12 (6, at first), numbered from 0, the lowest one", TermsEdges::floors);
        all.terms(21, "Each is a chapter of at most 9 paragraphs, numbered from 0 (none, at first)", TermsEdges::paragraphs);
        all.terms(3, "each paragraph has a topic, 0 to 7, and a thrill, 0 to 9", TermsEdges::topicsAndThrills);
        all.terms(22, "The next paragraph of a chapter is the first one that was neither printed nor cut",
                TermsEdges::neitherPrintedNorCut);
        all.terms(26, "Censor. Each topic is forbidden or not (not, at first)", TermsEdges::nothingForbidden);
        all.terms(13, "The lift is on a floor (0, at first)", TermsEdges::floorAtFirst);
        all.terms(14, "goes up or down, or stands (at first)", TermsEdges::standsAtFirst);
        all.terms(18, "has some wear (0, at first)", TermsEdges::wearAtFirst);
        all.terms(17, "is stuck for some hours (0, at first: not)", TermsEdges::stuckAtFirst);
        all.terms(15, "Floors are called or not", TermsEdges::calledOrNot);
        all.terms(19, "It gets stuck with as much wear as a limit, 1 to 99 (20, at first)", TermsEdges::limits);
        all.terms(20, "Suspense (0, at first)", TermsEdges::suspenseAtFirst);
        all.terms(32, "the suspense as it is printed, added; the suspense is 0 then", TermsEdges::suspenseAdded);
        all.terms(15, "Stopping on a floor: it is not called any more", TermsEdges::calledNoMore);
        all.terms(22, "if its chapter has a next paragraph", TermsEdges::stopWithoutANext);
        all.terms(25, "that is cut, if its topic is forbidden, otherwise printed", TermsEdges::cutOrPrinted);
        all.terms(40, "as an instalment, which each subscriber reads", TermsEdges::subscribersRead);
        all.terms(30, "Instalments are numbered from 0", TermsEdges::instalmentsFromZero);
        all.terms(37, "Readers. At most 8, numbered from 0; each has a taste", TermsEdges::eightReaders);
        all.terms(40, "is so warm as told, 1 to 20, at first", TermsEdges::warmAsTold);
        all.terms(41, "each is a subscriber, at first", TermsEdges::subscriberAtFirst);
        all.terms(40, "otherwise by a third of it; 99 at most", TermsEdges::warmthAtMost);
        all.terms(43, "Mirrors. At most 4, numbered from 0; each likes", TermsEdges::fourMirrors);
        all.terms(7, "each likes a topic and dislikes another one", TermsEdges::likesAndDislikes);
        all.terms(44, "at least 0", TermsEdges::leastGrade);
        all.terms(44, "at most 10", TermsEdges::bestGrade);
    }

    /** 511 calls, and what the one behind them answers; the same hours went by with few calls for another object. */
    private static void lastCall(Edge e) {
        LiftNovel many = Scenes.full();
        LiftNovel few = Scenes.full();
        int made = 1 + 1 + 108 + 8 + 4;
        Scenes.callAll(many);
        Scenes.callAll(few);
        for (int calls = made + 12; calls < 511; calls++) {
            many.passHours(1);
        }
        int hours = 511 - made - 12;
        for (int left = hours; left > 0; left -= 60) {
            few.passHours(Math.min(60, left));
        }
        e.same("digest() as the last call", many.digest(), few.digest());
        LiftNovel busy = new LiftNovel();
        busy.addParagraph(0, 0, 9);
        for (int calls = 1; calls < 509; calls++) {
            busy.passHours(60);
        }
        busy.call(0);
        e.same("passHours(60) as the last call but one", busy.passHours(60), 1);
        e.same("hourIn(0) as the last call", busy.hourIn(0), 508 * 60);
    }

    private static void thirdOfAThrill(Edge e) {
        int[] thirds = {0, 0, 0, 1, 1, 1, 2, 2, 2, 3};
        for (int thrill = 0; thrill <= 9; thrill++) {
            LiftNovel x = Scenes.chapter(new int[][] {{0, thrill}});
            x.addReader(1, 20);
            x.addMirror(1, 2);
            Scenes.stopHere(x, 1);
            e.same("warmthOf(0), warmer by a third of " + thrill, x.warmthOf(0), 20 + thirds[thrill]);
            e.same("grade(0, 0), 4 and a third of " + thrill, x.grade(0, 0), 4 + thirds[thrill]);
        }
    }

    private static void quarterOfALimit(Edge e) {
        int[][] hoursByLimit = {{1, 1}, {2, 1}, {3, 1}, {4, 2}, {5, 2}, {7, 2}, {8, 3}, {10, 3}, {11, 3}};
        for (int[] row : hoursByLimit) {
            LiftNovel x = Scenes.standingOn(row[0]);
            x.setLimit(row[0]);
            x.passHours(1);
            e.same("stuckFor() by the limit " + row[0], x.stuckFor(), row[1]);
        }
    }

    private static void hoursFromZero(Edge e) {
        LiftNovel x = Scenes.chapter(new int[][] {{0, 0}});
        e.same("hours() ahead of the first one", x.hours(), 0);
        Scenes.stopHere(x, 1);
        e.same("hours() behind the first one", x.hours(), 1);
        e.same("hourIn(0), the first one", x.hourIn(0), 0);
    }

    private static void floors(Edge e) {
        LiftNovel x = new LiftNovel();
        e.same("floors() at first", x.floors(), 6);
        e.noArgument(x, "begin(1)", () -> x.begin(1));
        e.noArgument(x, "begin(13)", () -> x.begin(13));
        for (int floors : new int[] {2, 12}) {
            x.begin(floors);
            int highest = floors - 1;
            e.same("floors()", x.floors(), floors);
            e.noIndex(x, "a floor below the lowest one", () -> x.isCalled(-1));
            e.noIndex(x, "a floor above the highest one", () -> x.isCalled(highest + 1));
            x.setLimit(99);
            x.call(highest);
            x.passHours(1);
            e.same("liftAt(), up from the lowest one", x.liftAt(), 1);
            x.passHours(12);
            x.call(0);
            x.passHours(12);
            e.same("liftAt(), down to the lowest one", x.liftAt(), 0);
        }
    }

    private static void paragraphs(Edge e) {
        LiftNovel x = new LiftNovel();
        e.same("paragraphs(5) at first", x.paragraphs(5), 0);
        for (int number = 0; number < 9; number++) {
            e.same("addParagraph(5, 0, 0)", x.addParagraph(5, 0, 0), number);
        }
        e.noState(x, "a tenth one", () -> x.addParagraph(5, 0, 0));
        e.same("paragraphs(5)", x.paragraphs(5), 9);
        e.noIndex(x, "topicOf(5, -1)", () -> x.topicOf(5, -1));
        e.noIndex(x, "topicOf(5, 9)", () -> x.topicOf(5, 9));
    }

    private static void topicsAndThrills(Edge e) {
        LiftNovel x = Scenes.standingOn(0);
        for (int topic = 0; topic <= 7; topic++) {
            for (int thrill = 0; thrill <= 8; thrill++) {
                int number = x.addParagraph(topic, topic, thrill);
                e.same("topicOf()", x.topicOf(topic, number), topic);
                e.same("thrillOf()", x.thrillOf(topic, number), thrill);
            }
        }
        e.same("thrillOf(11, 0)", x.thrillOf(11, x.addParagraph(11, 7, 9)), 9);
        e.noArgument(x, "the topic -1", () -> x.addParagraph(11, -1, 0));
        e.noArgument(x, "the topic 8", () -> x.addParagraph(11, 8, 0));
        e.noArgument(x, "the thrill -1", () -> x.addParagraph(11, 0, -1));
        e.noArgument(x, "the thrill 10", () -> x.addParagraph(11, 0, 10));
    }

    private static void neitherPrintedNorCut(Edge e) {
        LiftNovel x = Scenes.chapter(new int[][] {{0, 0}, {1, 0}, {1, 0}, {0, 0}});
        e.same("nextParagraph(0), none printed or cut", x.nextParagraph(0), 0);
        Scenes.stopHere(x, 1);
        e.same("nextParagraph(0), one printed", x.nextParagraph(0), 1);
        x.turnTopic(1);
        e.same("nextParagraph(0), forbidden", x.nextParagraph(0), 1);
        Scenes.stopHere(x, 1);
        e.same("nextParagraph(0), one cut", x.nextParagraph(0), 2);
        x.turnTopic(1);
        Scenes.stopHere(x, 1);
        e.same("paragraphIn(1), the cut one left out for good", x.paragraphIn(1), 2);
        Scenes.stopHere(x, 1);
        e.same("nextParagraph(0), all printed or cut", x.nextParagraph(0), -1);
    }

    private static void nothingForbidden(Edge e) {
        LiftNovel x = new LiftNovel();
        for (int topic = 0; topic < 8; topic++) {
            e.no("isForbidden(" + topic + ") at first", x.isForbidden(topic));
            x.addParagraph(0, topic, 0);
        }
        Scenes.stopHere(x, 8);
        e.same("instalments(), one of each topic", x.instalments(), 8);
    }

    private static void floorAtFirst(Edge e) {
        LiftNovel x = new LiftNovel();
        e.same("liftAt() at first", x.liftAt(), 0);
        x.call(0);
        x.passHours(1);
        e.no("isCalled(0), it was there", x.isCalled(0));
        e.same("liftAt()", x.liftAt(), 0);
    }

    private static void standsAtFirst(Edge e) {
        LiftNovel x = new LiftNovel();
        e.same("goes() at first", x.goes(), 0);
        x.passHours(60);
        e.same("goes(), never called", x.goes(), 0);
    }

    private static void wearAtFirst(Edge e) {
        LiftNovel x = new LiftNovel();
        e.same("wear() at first", x.wear(), 0);
        x.call(1);
        x.passHours(1);
        e.same("wear(), gone a floor", x.wear(), 1);
    }

    private static void stuckAtFirst(Edge e) {
        LiftNovel x = new LiftNovel();
        e.same("stuckFor() at first", x.stuckFor(), 0);
        e.same("repair() at first", x.repair(), 0);
        x.call(1);
        x.passHours(1);
        e.same("liftAt(), free at once", x.liftAt(), 1);
    }

    private static void calledOrNot(Edge e) {
        LiftNovel made = new LiftNovel();
        for (int floor = 0; floor < 6; floor++) {
            e.no("isCalled(" + floor + "), never called", made.isCalled(floor));
        }
        LiftNovel x = Scenes.standingOn(0);
        x.call(0);
        x.call(11);
        for (int floor = 0; floor < 12; floor++) {
            e.same("isCalled(" + floor + ")", x.isCalled(floor) ? 1 : 0, floor == 0 || floor == 11 ? 1 : 0);
        }
        x.begin(12);
        e.no("isCalled(11) in another novel", x.isCalled(11));
    }

    /** With the limit of at first, the least and the greatest one: stuck with as much wear, and not with less. */
    private static void limits(Edge e) {
        LiftNovel x = Scenes.standingOn(11);
        e.same("limit() at first", x.limit(), 20);
        x.call(0);
        x.passHours(8);
        e.same("wear(), one less than 20", x.wear(), 19);
        e.same("stuckFor(), one less than 20", x.stuckFor(), 0);
        x.passHours(1);
        e.same("stuckFor() with the limit 20", x.stuckFor(), 6);
        LiftNovel least = Scenes.standingOn(0);
        least.setLimit(1);
        least.passHours(1);
        e.same("stuckFor(), no wear", least.stuckFor(), 0);
        least.call(1);
        least.passHours(1);
        e.same("stuckFor() with the limit 1", least.stuckFor(), 1);
        LiftNovel greatest = Scenes.worn();
        greatest.call(11);
        greatest.passHours(10);
        e.same("stuckFor(), one less than 99", greatest.stuckFor(), 0);
        greatest.passHours(1);
        e.same("stuckFor() with the limit 99", greatest.stuckFor(), 25);
        e.noArgument(x, "setLimit(0)", () -> x.setLimit(0));
        e.noArgument(x, "setLimit(100)", () -> x.setLimit(100));
    }

    private static void suspenseAtFirst(Edge e) {
        LiftNovel x = Scenes.chapter(new int[][] {{0, 4}});
        e.same("suspense() at first", x.suspense(), 0);
        Scenes.stopHere(x, 1);
        e.same("thrillIn(0), none added", x.thrillIn(0), 4);
    }

    private static void suspenseAdded(Edge e) {
        LiftNovel x = Scenes.stuckOften(2);
        x.addParagraph(0, 0, 0);
        x.addParagraph(0, 0, 1);
        e.same("suspense() ahead of it", x.suspense(), 20);
        Scenes.stopHere(x, 1);
        e.same("thrillIn(1), of a paragraph without thrill", x.thrillIn(1), 20);
        e.same("suspense() when it was printed", x.suspense(), 0);
        Scenes.stopHere(x, 1);
        e.same("thrillIn(2), nothing to add", x.thrillIn(2), 1);
        LiftNovel cut = Scenes.stuckOften(2);
        cut.addParagraph(0, 0, 0);
        cut.turnTopic(0);
        Scenes.stopHere(cut, 1);
        e.same("suspense() when it was cut", cut.suspense(), 20);
    }

    private static void calledNoMore(Edge e) {
        LiftNovel x = Scenes.chapter(new int[][] {{0, 0}, {1, 0}});
        x.turnTopic(1);
        for (String what : new String[] {"printed", "cut", "nothing left"}) {
            x.call(0);
            e.yes("isCalled(0) ahead of it", x.isCalled(0));
            x.passHours(1);
            e.no("isCalled(0), " + what, x.isCalled(0));
            e.same("calls(), " + what, x.calls(), 0);
        }
        x.call(5);
        x.call(3);
        x.passHours(3);
        e.no("isCalled(3), stopped on its way", x.isCalled(3));
        e.yes("isCalled(5), not yet there", x.isCalled(5));
    }

    private static void stopWithoutANext(Edge e) {
        LiftNovel x = new LiftNovel();
        x.addReader(0, 9);
        Scenes.stopHere(x, 1);
        e.same("instalments(), an empty chapter", x.instalments(), 0);
        e.same("cuts(), an empty chapter", x.cuts(), 0);
        e.same("warmthOf(0), an empty chapter", x.warmthOf(0), 8);
        for (int number = 0; number < 9; number++) {
            x.addParagraph(0, 0, 0);
        }
        Scenes.stopHere(x, 9);
        e.same("instalments(), the last of 9", x.instalments(), 9);
        x.turnTopic(0);
        Scenes.stopHere(x, 2);
        e.same("instalments(), a told chapter", x.instalments(), 9);
        e.same("cuts(), a told chapter", x.cuts(), 0);
        e.same("warmthOf(0), a told chapter", x.warmthOf(0), 6);
    }

    private static void cutOrPrinted(Edge e) {
        LiftNovel x = Scenes.chapter(new int[][] {{7, 0}, {7, 0}, {7, 0}});
        x.turnTopic(7);
        Scenes.stopHere(x, 1);
        e.same("cutOn(0), forbidden", x.cutOn(0), 1);
        e.same("instalments(), forbidden", x.instalments(), 0);
        x.turnTopic(7);
        Scenes.stopHere(x, 1);
        e.same("cutOn(0), allowed", x.cutOn(0), 1);
        e.same("instalments(), allowed", x.instalments(), 1);
        x.turnTopic(6);
        Scenes.stopHere(x, 1);
        e.same("cutOn(0), another one forbidden", x.cutOn(0), 1);
        e.same("instalments(), another one forbidden", x.instalments(), 2);
    }

    private static void subscribersRead(Edge e) {
        LiftNovel x = Scenes.chapter(new int[][] {{0, 6}});
        x.addReader(0, 1);
        x.addReader(0, 2);
        for (int reader = 2; reader < 8; reader++) {
            x.addReader(reader, 20);
        }
        x.passHours(2);
        Scenes.stopHere(x, 1);
        e.same("warmthOf(0), no subscriber", x.warmthOf(0), 0);
        e.no("isSubscriber(0)", x.isSubscriber(0));
        e.same("warmthOf(1), a subscriber who was not warm", x.warmthOf(1), 6);
        for (int reader = 2; reader < 8; reader++) {
            e.same("warmthOf(" + reader + ")", x.warmthOf(reader), 20);
        }
    }

    private static void instalmentsFromZero(Edge e) {
        LiftNovel x = Scenes.chapter(new int[][] {{0, 3}, {0, 5}});
        x.addParagraph(5, 0, 8);
        Scenes.stopHere(x, 2);
        x.call(5);
        x.passHours(5);
        e.noIndex(x, "thrillIn(-1)", () -> x.thrillIn(-1));
        e.same("thrillIn(0), the first one", x.thrillIn(0), 3);
        e.same("thrillIn(1)", x.thrillIn(1), 5);
        e.same("thrillIn(2), the last one", x.thrillIn(2), 8);
        e.same("floorIn(0)", x.floorIn(0), 0);
        e.same("floorIn(2)", x.floorIn(2), 5);
        e.noIndex(x, "floorIn(3)", () -> x.floorIn(3));
    }

    private static void eightReaders(Edge e) {
        LiftNovel x = new LiftNovel();
        e.same("readers() at first", x.readers(), 0);
        for (int reader = 0; reader < 8; reader++) {
            e.same("addReader()", x.addReader(7 - reader, 1), reader);
        }
        e.noState(x, "a ninth one", () -> x.addReader(0, 1));
        e.same("readers()", x.readers(), 8);
        e.same("tasteOf(0), the first one", x.tasteOf(0), 7);
        e.same("tasteOf(7), the last one", x.tasteOf(7), 0);
    }

    private static void warmAsTold(Edge e) {
        LiftNovel x = new LiftNovel();
        e.same("warmthOf(), the least", x.warmthOf(x.addReader(0, 1)), 1);
        e.same("warmthOf(), the most", x.warmthOf(x.addReader(0, 20)), 20);
        e.noArgument(x, "warm by 0", () -> x.addReader(0, 0));
        e.noArgument(x, "warm by 21", () -> x.addReader(0, 21));
    }

    private static void subscriberAtFirst(Edge e) {
        LiftNovel x = new LiftNovel();
        for (int reader = 0; reader < 8; reader++) {
            x.addReader(0, 1);
            e.yes("isSubscriber(" + reader + ") at first", x.isSubscriber(reader));
            e.same("subscribers()", x.subscribers(), reader + 1);
        }
    }

    /** One who likes it and one who does not: up to 99 and no farther. */
    private static void warmthAtMost(Edge e) {
        LiftNovel x = new LiftNovel();
        for (int thrill : new int[] {9, 9, 9, 9, 9, 9, 9, 9, 6}) {
            x.addParagraph(0, 0, thrill);
        }
        x.addReader(0, 20);
        Scenes.stopHere(x, 9);
        e.same("warmthOf(0), by 78 to 98", x.warmthOf(0), 98);
        x.addParagraph(1, 0, 2);
        x.addParagraph(1, 0, 9);
        x.call(1);
        x.passHours(1);
        e.same("warmthOf(0), by 2 to 99", x.warmthOf(0), 99);
        Scenes.stopHere(x, 1);
        e.same("warmthOf(0), by 9 to 99", x.warmthOf(0), 99);
        LiftNovel tense = Scenes.stuckOften(28);
        tense.addReader(0, 20);
        tense.addReader(1, 20);
        tense.addReader(2, 7);
        tense.addReader(2, 6);
        tense.addParagraph(0, 0, 0);
        Scenes.stopHere(tense, 1);
        e.same("warmthOf(0), by 280", tense.warmthOf(0), 99);
        e.same("warmthOf(1), by a third of 280", tense.warmthOf(1), 99);
        e.same("warmthOf(2), by a third of 280 to 100", tense.warmthOf(2), 99);
        e.same("warmthOf(3), by a third of 280 to 99", tense.warmthOf(3), 99);
        tense.addReader(2, 5);
        tense.passHours(1);
        e.same("warmthOf(0) an hour on", tense.warmthOf(0), 98);
        e.same("warmthOf(3) an hour on", tense.warmthOf(3), 98);
    }

    private static void fourMirrors(Edge e) {
        LiftNovel x = Scenes.chapter(new int[][] {{3, 0}});
        e.same("mirrors() at first", x.mirrors(), 0);
        e.same("addMirror(), the first one", x.addMirror(3, 0), 0);
        e.same("addMirror(), the second one", x.addMirror(1, 0), 1);
        e.same("addMirror(), the third one", x.addMirror(1, 0), 2);
        e.same("addMirror(), the fourth one", x.addMirror(1, 3), 3);
        e.noState(x, "a fifth one", () -> x.addMirror(1, 2));
        e.same("mirrors()", x.mirrors(), 4);
        Scenes.stopHere(x, 1);
        e.same("grade(0, 0) by the first one", x.grade(0, 0), 6);
        e.same("grade(3, 0) by the last one", x.grade(3, 0), 1);
    }

    private static void likesAndDislikes(Edge e) {
        for (int likes = 0; likes < 8; likes++) {
            for (int dislikes = 0; dislikes < 8; dislikes++) {
                LiftNovel x = new LiftNovel();
                int liked = likes;
                int disliked = dislikes;
                if (likes == dislikes) {
                    e.noArgument(x, "likes what it dislikes", () -> x.addMirror(liked, disliked));
                    continue;
                }
                e.same("addMirror(" + likes + ", " + dislikes + ")", x.addMirror(likes, dislikes), 0);
                x.addParagraph(0, likes, 0);
                x.addParagraph(0, dislikes, 0);
                Scenes.stopHere(x, 2);
                e.same("grade(0, 0), it likes " + likes, x.grade(0, 0), 6);
                e.same("grade(0, 1), it dislikes " + dislikes, x.grade(0, 1), 1);
            }
        }
    }

    /** The least that the numbers of the document make is 1. */
    private static void leastGrade(Edge e) {
        for (int thrill = 0; thrill <= 9; thrill++) {
            LiftNovel x = Scenes.chapter(new int[][] {{1, thrill}});
            x.addMirror(0, 1);
            Scenes.stopHere(x, 1);
            e.same("grade(0, 0), 3 less for the thrill " + thrill, x.grade(0, 0), 1 + thrill / 3);
        }
    }

    /** Thrills of a liked, a disliked and any topic by which a grade is 9, 10, or would be 11 and 12. */
    private static void bestGrade(Edge e) {
        int[][] topicsThrillsGrades = {
            {0, 11, 9}, {0, 12, 10}, {0, 15, 10}, {0, 18, 10}, {0, 400, 10},
            {2, 17, 9}, {2, 18, 10}, {2, 21, 10}, {2, 24, 10}, {2, 400, 10},
            {1, 26, 9}, {1, 27, 10}, {1, 30, 10}, {1, 33, 10}, {1, 400, 10},
        };
        for (int[] row : topicsThrillsGrades) {
            LiftNovel x = Scenes.stuckOften(row[1] / 10);
            x.addMirror(0, 1);
            x.addParagraph(x.liftAt(), row[0], row[1] % 10);
            Scenes.stopHere(x, 1);
            e.same("thrillIn(1)", x.thrillIn(1), row[1]);
            e.same("grade(0, 1) of topic " + row[0] + " and thrill " + row[1], x.grade(0, 1), row[2]);
        }
    }
}
