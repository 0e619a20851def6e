/** All that an object answers about its state, as a text. */
final class Snapshot {
    private Snapshot() {
    }

    static String of(LiftNovel x) {
        StringBuilder text = new StringBuilder();
        put(text, x.floors(), x.hours(), x.liftAt(), x.goes(), x.calls(), x.stuckFor(), x.wear(), x.limit());
        put(text, x.suspense(), x.cuts(), x.instalments(), x.mostThrilling(), x.longestWait(), x.climbs());
        put(text, x.readers(), x.subscribers(), x.warmest(), x.mirrors(), x.kindest());
        for (int floor = 0; floor < x.floors(); floor++) {
            putFloor(text, x, floor);
        }
        for (int topic = 0; topic < 8; topic++) {
            put(text, x.isForbidden(topic) ? 1 : 0, x.toCome(topic));
        }
        for (int i = 0; i < x.instalments(); i++) {
            put(text, x.floorIn(i), x.paragraphIn(i), x.thrillIn(i), x.hourIn(i));
        }
        for (int reader = 0; reader < x.readers(); reader++) {
            put(text, x.tasteOf(reader), x.warmthOf(reader), x.isSubscriber(reader) ? 1 : 0);
        }
        for (int mirror = 0; mirror < x.mirrors(); mirror++) {
            putMirror(text, x, mirror);
        }
        return text.append(x.meanWarmth()).append(' ').append(x.digest()).toString();
    }

    private static void putFloor(StringBuilder text, LiftNovel x, int floor) {
        put(text, x.isCalled(floor) ? 1 : 0, x.paragraphs(floor), x.nextParagraph(floor), x.cutOn(floor));
        for (int paragraph = 0; paragraph < x.paragraphs(floor); paragraph++) {
            put(text, x.topicOf(floor, paragraph), x.thrillOf(floor, paragraph));
        }
    }

    private static void putMirror(StringBuilder text, LiftNovel x, int mirror) {
        put(text, x.gradesBy(mirror), x.favouriteOf(mirror));
        for (int i = 0; i < x.instalments(); i++) {
            put(text, x.grade(mirror, i));
        }
    }

    private static void put(StringBuilder text, int... numbers) {
        for (int number : numbers) {
            text.append(number).append(' ');
        }
        text.append("| ");
    }
}
