import java.lang.reflect.Method;
import java.lang.reflect.Modifier;

/** Sentences of the terms that name no boundary case, and in which order an hour takes its steps. */
final class TermsSentences {
    private TermsSentences() {
    }

    static void run(Sentences all) {
        all.terms(44, "All numbers are whole, and / is cut towards 0", TermsSentences::wholeNumbers);
        all.terms(32, "The thrill of an instalment is that of its paragraph, and the suspense as it is printed, added",
                TermsSentences::thrillOfAnInstalment);
        all.terms(39, "each has a taste, which is a topic", TermsSentences::tasteIsATopic);
        all.terms(40, "One who reads an instalment is warmer by its thrill, if its topic is the taste",
                TermsSentences::warmerByTheThrill);
        all.terms(44, "Its grade for an instalment: 4, a third of the thrill, 2 more if it likes the topic, "
                + "3 less if it dislikes it", TermsSentences::grades);
        all.terms(10, "An hour goes like this: ```text", TermsSentences::hourByHour);
        all.terms(17, "1. If the lift is stuck", TermsSentences::stuckBeforeItGetsStuck);
        all.terms(13, "2. Otherwise, if some floor is called", TermsSentences::goesIfNotStuck);
        all.terms(41, "3. If nothing was printed in this hour", TermsSentences::coolBehindPrinting);
        all.terms(14, "4. If no floor is called, it stands. If it is not stuck", TermsSentences::standsBehindItsStop);
        all.terms(33, "5. The hour is 1 greater", TermsSentences::hourAtTheEnd);
        all.terms(14, "that is the way it goes then", TermsSentences::wayThatItGoes);
    }

    /** Every third is cut by itself, so three of them are less than the whole may be. */
    private static void wholeNumbers(Edge e) {
        for (Method method : LiftNovel.class.getDeclaredMethods()) {
            if (Modifier.isPublic(method.getModifiers()) && !method.getName().equals("meanWarmth")) {
                Class<?> answer = method.getReturnType();
                e.yes(method + " answers a whole number, or whether something is so",
                        answer == int.class || answer == long.class || answer == boolean.class);
            }
        }
        int[][] thrillsWarmersGrades = {{2, 0, 12}, {5, 3, 15}, {8, 6, 18}};
        for (int[] row : thrillsWarmersGrades) {
            LiftNovel x = Scenes.chapter(new int[][] {{0, row[0]}, {0, row[0]}, {0, row[0]}});
            x.addReader(1, 20);
            x.addMirror(1, 2);
            Scenes.stopHere(x, 3);
            e.same("warmthOf(0), three thirds of " + row[0], x.warmthOf(0), 20 + row[1]);
            e.same("gradesBy(0), three thirds of " + row[0], x.gradesBy(0), row[2]);
        }
    }

    private static void thrillOfAnInstalment(Edge e) {
        for (int times = 0; times <= 3; times++) {
            for (int thrill = 0; thrill <= 9; thrill++) {
                LiftNovel x = Scenes.stuckOften(times);
                x.addParagraph(x.liftAt(), 0, thrill);
                e.same("suspense()", x.suspense(), 10 * times);
                Scenes.stopHere(x, 1);
                e.same("thrillIn(1)", x.thrillIn(1), thrill + 10 * times);
            }
        }
    }

    /** A reader of each taste likes its own topic alone. */
    private static void tasteIsATopic(Edge e) {
        LiftNovel x = new LiftNovel();
        for (int topic = 0; topic <= 7; topic++) {
            x.addReader(topic, 1);
            x.addParagraph(0, topic, 9);
        }
        for (int topic = 0; topic <= 7; topic++) {
            Scenes.stopHere(x, 1);
            for (int taste = 0; taste <= 7; taste++) {
                int due = 1 + 3 * (topic + 1) + (taste <= topic ? 6 : 0);
                e.same("warmthOf(" + taste + ") behind the topic " + topic, x.warmthOf(taste), due);
            }
        }
    }

    private static void warmerByTheThrill(Edge e) {
        for (int times = 0; times <= 3; times++) {
            for (int thrill = 0; thrill <= 9; thrill++) {
                LiftNovel x = Scenes.stuckOften(times);
                x.addReader(0, 20);
                x.addReader(1, 20);
                x.addParagraph(x.liftAt(), 0, thrill);
                Scenes.stopHere(x, 1);
                int whole = thrill + 10 * times;
                e.same("warmthOf(0), by " + whole, x.warmthOf(0), 20 + whole);
                e.same("warmthOf(1), by a third of " + whole, x.warmthOf(1), 20 + whole / 3);
            }
        }
    }

    /** Of a topic that is liked, disliked, or neither. */
    private static void grades(Edge e) {
        int[][] thrillsAndGrades = {{0, 6, 1, 4}, {2, 6, 1, 4}, {3, 7, 2, 5}, {9, 9, 4, 7}, {10, 9, 4, 7}, {12, 10, 5, 8},
            {16, 10, 6, 9}, {20, 10, 7, 10}};
        for (int[] row : thrillsAndGrades) {
            for (int topic = 0; topic < 3; topic++) {
                LiftNovel x = Scenes.stuckOften(row[0] / 10);
                x.addMirror(0, 1);
                x.addParagraph(x.liftAt(), topic, row[0] % 10);
                Scenes.stopHere(x, 1);
                e.same("grade(0, 1) by the topic " + topic + " and the thrill " + row[0], x.grade(0, 1), row[topic + 1]);
            }
        }
    }

    /** One hour behind the other, with all that they change, written out by hand. */
    private static void hourByHour(Edge e) {
        LiftNovel x = new LiftNovel();
        x.setLimit(2);
        x.addParagraph(1, 0, 4);
        x.addParagraph(2, 0, 5);
        x.addParagraph(2, 0, 1);
        x.addReader(0, 3);
        x.call(1);
        x.call(2);
        hour(e, x, 1, 1, 0, 1, 0, 7, 1);
        hour(e, x, 2, 0, 1, 0, 0, 12, 2);
        x.call(2);
        hour(e, x, 2, 0, 0, 0, 6, 11, 2);
        hour(e, x, 2, 0, 0, 0, 0, 18, 3);
        hour(e, x, 2, 0, 0, 0, 0, 17, 3);
        x.call(0);
        hour(e, x, 1, -1, 0, 1, 0, 16, 3);
        hour(e, x, 0, 0, 1, 0, 0, 15, 3);
        hour(e, x, 0, 0, 0, 0, 2, 14, 3);
        e.same("thrillIn(2)", x.thrillIn(2), 7);
        e.same("hourIn(2)", x.hourIn(2), 3);
    }

    /** Due are liftAt(), goes(), stuckFor(), wear(), suspense(), warmthOf(0) and instalments(). */
    private static void hour(Edge e, LiftNovel x, int... due) {
        int hours = x.hours();
        x.passHours(1);
        int[] got = {x.liftAt(), x.goes(), x.stuckFor(), x.wear(), x.suspense(), x.warmthOf(0), x.instalments()};
        String[] names = {"liftAt()", "goes()", "stuckFor()", "wear()", "suspense()", "warmthOf(0)", "instalments()"};
        for (int i = 0; i < got.length; i++) {
            e.same(names[i] + " behind the hour " + hours, got[i], due[i]);
        }
        e.same("hours()", x.hours(), hours + 1);
    }

    /** The hour in which it gets stuck is none of those for which it is. */
    private static void stuckBeforeItGetsStuck(Edge e) {
        LiftNovel x = Scenes.standingOn(0);
        x.setLimit(4);
        x.call(11);
        x.passHours(4);
        int[][] stuckAndSuspense = {{2, 0}, {1, 1}, {0, 2}, {0, 2}};
        for (int[] due : stuckAndSuspense) {
            e.same("stuckFor()", x.stuckFor(), due[0]);
            e.same("suspense()", x.suspense(), due[1]);
            x.passHours(1);
        }
    }

    /** Not even in the last hour for which it is stuck it goes, stops, or is worn. */
    private static void goesIfNotStuck(Edge e) {
        LiftNovel x = Scenes.standingOn(0);
        x.addParagraph(1, 0, 0);
        x.setLimit(1);
        x.call(1);
        x.call(2);
        x.passHours(1);
        x.call(1);
        x.setLimit(99);
        e.same("stuckFor()", x.stuckFor(), 1);
        x.passHours(1);
        e.same("stuckFor(), its last hour", x.stuckFor(), 0);
        e.same("liftAt(), its last hour", x.liftAt(), 1);
        e.yes("isCalled(1), its last hour", x.isCalled(1));
        e.same("wear(), its last hour", x.wear(), 0);
        x.passHours(1);
        e.no("isCalled(1), the next hour", x.isCalled(1));
        x.passHours(1);
        e.same("liftAt(), the hour behind it", x.liftAt(), 2);
        e.same("wear(), the hour behind it", x.wear(), 1);
    }

    /** What comes in this hour keeps a reader who is not warm; what came in the hour before does not. */
    private static void coolBehindPrinting(Edge e) {
        LiftNovel x = Scenes.chapter(new int[][] {{0, 0}});
        x.addReader(0, 1);
        x.passHours(1);
        e.same("warmthOf(0)", x.warmthOf(0), 0);
        Scenes.stopHere(x, 1);
        e.yes("isSubscriber(0), one came in this hour", x.isSubscriber(0));
        x.passHours(1);
        e.no("isSubscriber(0), one came in the hour before", x.isSubscriber(0));
        LiftNovel y = Scenes.chapter(new int[][] {{0, 8}});
        y.addReader(0, 20);
        Scenes.stopHere(y, 1);
        e.same("warmthOf(0), not cooler in this hour", y.warmthOf(0), 28);
        y.passHours(1);
        e.same("warmthOf(0), cooler in the next one", y.warmthOf(0), 27);
    }

    /** In the hour of its last stop, and worn by the way of this hour. */
    private static void standsBehindItsStop(Edge e) {
        LiftNovel x = Scenes.standingOn(0);
        x.setLimit(3);
        x.call(3);
        x.passHours(2);
        e.same("goes(), a floor ahead", x.goes(), 1);
        e.same("stuckFor(), a floor ahead", x.stuckFor(), 0);
        x.passHours(1);
        e.same("goes(), it stopped in this hour", x.goes(), 0);
        e.same("stuckFor(), worn in this hour", x.stuckFor(), 1);
        x.setLimit(1);
        x.passHours(1);
        e.same("stuckFor(), free in this hour, not worn", x.stuckFor(), 0);
    }

    private static void hourAtTheEnd(Edge e) {
        for (int hours = 0; hours <= 60; hours += 15) {
            LiftNovel x = Scenes.chapter(new int[][] {{0, 0}});
            for (int hour = 0; hour < hours; hour++) {
                x.passHours(1);
            }
            Scenes.stopHere(x, 1);
            e.same("hourIn(0)", x.hourIn(0), hours);
            e.same("hours()", x.hours(), hours + 1);
        }
    }

    private static void wayThatItGoes(Edge e) {
        for (int from = 0; from < 12; from++) {
            for (int to = 0; to < 12; to++) {
                if (Math.abs(to - from) < 2) {
                    continue;
                }
                LiftNovel x = Scenes.standingOn(from);
                x.call(to);
                e.same("goes() until an hour goes by", x.goes(), 0);
                x.passHours(1);
                e.same("goes() from " + from + " to " + to, x.goes(), to > from ? 1 : -1);
                e.same("liftAt() from " + from + " to " + to, x.liftAt(), to > from ? from + 1 : from - 1);
                x.call(from);
                x.call(to > from ? 11 : 0);
                x.passHours(1);
                e.same("goes() on", x.goes(), to > from ? 1 : -1);
            }
        }
    }
}
