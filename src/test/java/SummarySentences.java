/** What the document says of the whole, at its beginning and end: what it is, its summary, and what is free. */
final class SummarySentences {
    private SummarySentences() {
    }

    static void run(Sentences all) {
        all.use(29, "A novel that a lift tells in instalments", SummarySentences::novel);
        all.terms(30, "Floors are chapters, and where the lift stops, their next paragraph is printed",
                SummarySentences::floorsAreChapters);
        all.terms(27, "a censor keeps doors shut before forbidden topics", SummarySentences::censor);
        all.terms(20, "the lift gets worn, and stuck, which makes suspense", SummarySentences::wornAndStuck);
        all.terms(40, "readers warm to what they like, and cool while nothing comes", SummarySentences::readers);
        all.terms(44, "mirrors review each instalment", SummarySentences::mirrors);
        all.terms(14, "one can ask where the lift is and goes", SummarySentences::whereItIsAndGoes);
        all.terms(29, "what was printed and cut", SummarySentences::printedAndCut);
        all.terms(41, "who still reads", SummarySentences::whoStillReads);
        all.terms(44, "how mirrors judge", SummarySentences::howMirrorsJudge);
        all.terms(49, "when it stops on a floor or gets stuck", SummarySentences::whenItStopsOrGetsStuck);
        all.terms(52, "which floor had best be called", SummarySentences::bestToCall);
        all.terms(53, "which topic had best be allowed", SummarySentences::bestToAllow);
        all.free(Document.USE, "what later calls answer is free");
        all.free(Document.NOT_PROMISED, "How the state is held inside the object is free, as are the speed of each call, "
                + "the text of toString and the behaviour of equals and hashCode");
        all.free(Document.NOT_PROMISED, "Use of one object from several threads at once is not promised to be safe");
        all.free(Document.NOT_PROMISED, "Nothing is promised beyond the answers and state changes described above, "
                + "and nothing about an object after its 512th call");
    }

    /** Three chapters, told whole, in the order in which the lift stops. */
    private static void novel(Edge e) {
        LiftNovel x = new LiftNovel();
        x.begin(3);
        int[][] paragraphs = {{0, 1}, {0, 2}, {1, 3}, {2, 4}, {2, 5}};
        for (int[] paragraph : paragraphs) {
            x.addParagraph(paragraph[0], 0, paragraph[1]);
        }
        int[][] calls = {{2}, {1, 0}, {2}, {0}};
        int printed = 0;
        for (int[] floors : calls) {
            for (int floor : floors) {
                x.call(floor);
            }
            printed += x.passHours(2);
        }
        int[][] due = {{2, 0, 4, 1}, {1, 0, 3, 2}, {0, 0, 1, 3}, {2, 1, 5, 5}, {0, 1, 2, 7}};
        e.same("instalments()", x.instalments(), due.length);
        e.same("all that passHours(2) answered", printed, due.length);
        for (int i = 0; i < due.length; i++) {
            e.same("floorIn(" + i + ")", x.floorIn(i), due[i][0]);
            e.same("paragraphIn(" + i + ")", x.paragraphIn(i), due[i][1]);
            e.same("thrillIn(" + i + ")", x.thrillIn(i), due[i][2]);
            e.same("hourIn(" + i + ")", x.hourIn(i), due[i][3]);
        }
    }

    /** Every chapter is told by the stops on its own floor, from its first paragraph on. */
    private static void floorsAreChapters(Edge e) {
        for (int floor = 0; floor < 12; floor++) {
            LiftNovel x = Scenes.full();
            x.call(floor);
            e.same("passHours(12)", x.passHours(12), 1);
            Scenes.stopHere(x, 8);
            e.same("instalments()", x.instalments(), 9);
            for (int i = 0; i < 9; i++) {
                e.same("floorIn(" + i + ")", x.floorIn(i), floor);
                e.same("paragraphIn(" + i + ")", x.paragraphIn(i), i);
                e.same("thrillIn(" + i + ")", x.thrillIn(i), floor * i % 10);
            }
        }
    }

    /** With the even topics forbidden those of the odd ones are printed, all of them, and no other. */
    private static void censor(Edge e) {
        LiftNovel x = Scenes.full();
        int due = 0;
        for (int topic = 0; topic < 8; topic++) {
            if (topic % 2 == 0) {
                x.turnTopic(topic);
            } else {
                due += x.toCome(topic);
            }
        }
        for (int round = 0; round < 9; round++) {
            Scenes.callAll(x);
            x.passHours(60);
        }
        e.same("instalments()", x.instalments(), due);
        e.same("cuts()", x.cuts(), 108 - due);
        for (int i = 0; i < x.instalments(); i++) {
            e.same("the topic of " + i, x.topicOf(x.floorIn(i), x.paragraphIn(i)) % 2, 1);
        }
    }

    private static void wornAndStuck(Edge e) {
        int[][] wearStuckSuspense = {{1, 0, 0}, {2, 0, 0}, {0, 1, 0}, {0, 0, 1}, {1, 0, 1}, {2, 0, 1}, {0, 1, 1}, {0, 0, 2}};
        LiftNovel x = Scenes.standingOn(0);
        x.setLimit(3);
        x.call(11);
        for (int[] due : wearStuckSuspense) {
            x.passHours(1);
            e.same("wear()", x.wear(), due[0]);
            e.same("stuckFor()", x.stuckFor(), due[1]);
            e.same("suspense()", x.suspense(), due[2]);
        }
    }

    private static void readers(Edge e) {
        LiftNovel x = Scenes.chapter(new int[][] {{2, 6}});
        x.addReader(2, 5);
        x.addReader(3, 5);
        Scenes.stopHere(x, 1);
        e.same("warmthOf(0), who likes it", x.warmthOf(0), 11);
        e.same("warmthOf(1), who likes another topic", x.warmthOf(1), 7);
        x.passHours(4);
        e.same("warmthOf(0), nothing came", x.warmthOf(0), 7);
        e.same("warmthOf(1), nothing came", x.warmthOf(1), 3);
    }

    /** Those of before it was there as well. */
    private static void mirrors(Edge e) {
        LiftNovel x = Scenes.chapter(new int[][] {{0, 0}, {1, 3}, {2, 6}});
        Scenes.stopHere(x, 2);
        x.addMirror(0, 1);
        Scenes.stopHere(x, 1);
        int[] due = {6, 2, 6};
        for (int i = 0; i < due.length; i++) {
            e.same("grade(0, " + i + ")", x.grade(0, i), due[i]);
        }
        e.same("gradesBy(0)", x.gradesBy(0), 14);
    }

    private static void whereItIsAndGoes(Edge e) {
        LiftNovel x = Scenes.standingOn(6);
        x.call(7);
        x.call(4);
        int[][] placesAndWays = {{7, 1}, {6, -1}, {5, -1}, {4, 0}, {4, 0}};
        for (int[] due : placesAndWays) {
            x.passHours(1);
            e.same("liftAt()", x.liftAt(), due[0]);
            e.same("goes()", x.goes(), due[1]);
        }
    }

    private static void printedAndCut(Edge e) {
        LiftNovel x = Scenes.chapter(new int[][] {{0, 0}, {1, 0}, {1, 0}, {0, 0}, {1, 0}});
        x.turnTopic(1);
        int[][] printedAndCuts = {{1, 0}, {1, 1}, {1, 2}, {2, 2}, {2, 3}, {2, 3}};
        for (int[] due : printedAndCuts) {
            Scenes.stopHere(x, 1);
            e.same("instalments()", x.instalments(), due[0]);
            e.same("cuts()", x.cuts(), due[1]);
            e.same("cutOn(0)", x.cutOn(0), due[1]);
        }
        e.same("paragraphIn(1), behind two that were cut", x.paragraphIn(1), 3);
    }

    private static void whoStillReads(Edge e) {
        LiftNovel x = new LiftNovel();
        for (int warm = 1; warm <= 8; warm++) {
            x.addReader(0, warm);
        }
        for (int hour = 1; hour <= 10; hour++) {
            x.passHours(1);
            for (int reader = 0; reader < 8; reader++) {
                e.same("isSubscriber(" + reader + ")", x.isSubscriber(reader) ? 1 : 0, hour <= reader + 1 ? 1 : 0);
            }
        }
    }

    private static void howMirrorsJudge(Edge e) {
        LiftNovel x = Scenes.chapter(new int[][] {{0, 9}, {0, 0}});
        x.addMirror(0, 1);
        x.addMirror(2, 0);
        x.addMirror(2, 1);
        Scenes.stopHere(x, 2);
        int[][] due = {{9, 6}, {4, 1}, {7, 4}};
        for (int mirror = 0; mirror < 3; mirror++) {
            e.same("grade(" + mirror + ", 0)", x.grade(mirror, 0), due[mirror][0]);
            e.same("grade(" + mirror + ", 1)", x.grade(mirror, 1), due[mirror][1]);
        }
        e.same("kindest()", x.kindest(), 0);
    }

    private static void whenItStopsOrGetsStuck(Edge e) {
        LiftNovel x = Scenes.standingOn(0);
        x.setLimit(5);
        x.call(3);
        x.call(8);
        e.same("hoursUntilStop(3)", x.hoursUntilStop(3), 3);
        e.same("hoursUntilStop(8), stuck for two hours on its way", x.hoursUntilStop(8), 10);
        e.same("hoursUntilStuck()", x.hoursUntilStuck(), 5);
    }

    private static void bestToCall(Edge e) {
        LiftNovel x = new LiftNovel();
        x.addReader(4, 20);
        x.addParagraph(1, 4, 3);
        x.addParagraph(2, 4, 9);
        x.addParagraph(3, 5, 9);
        e.same("bestToCall(1)", x.bestToCall(1), 1);
        e.same("bestToCall(2)", x.bestToCall(2), 2);
        e.same("bestToCall(3)", x.bestToCall(3), 2);
    }

    private static void bestToAllow(Edge e) {
        LiftNovel x = Scenes.chapter(new int[][] {{4, 0}});
        x.addParagraph(1, 3, 0);
        x.addParagraph(2, 3, 0);
        Scenes.callAll(x);
        x.turnTopic(3);
        x.turnTopic(4);
        e.same("bestToAllow(2)", x.bestToAllow(2), 3);
        e.same("bestToAllow(3)", x.bestToAllow(3), 3);
        e.same("bestToAllow(1)", x.bestToAllow(1), 4);
    }
}
