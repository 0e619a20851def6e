import java.util.function.IntConsumer;
import java.util.function.ObjIntConsumer;

/** What the test of one sentence looks at, in the name of the promise that the sentence is about. */
final class Edge {
    private static final int[] FLOORS = {2, 6, 12};

    private final Check check;
    private final int promise;

    Edge(Check check, int promise) {
        this.check = check;
        this.promise = promise;
    }

    void same(String what, long got, long want) {
        check.same(promise, what, got, want);
    }

    void same(String what, double got, double want) {
        check.same(promise, what, got, want);
    }

    void same(String what, String got, String want) {
        check.same(promise, what, got, want);
    }

    void yes(String what, boolean isSo) {
        check.yes(promise, what, isSo);
    }

    void no(String what, boolean isSo) {
        check.no(promise, what, isSo);
    }

    void asks(LiftNovel x, String what, Runnable call) {
        check.asks(promise, x, what, call);
    }

    void noIndex(LiftNovel x, String what, Runnable call) {
        check.noIndex(promise, x, what, call);
    }

    void noArgument(LiftNovel x, String what, Runnable call) {
        check.noArgument(promise, x, what, call);
    }

    void noState(LiftNovel x, String what, Runnable call) {
        check.noState(promise, x, what, call);
    }

    /** Too small and too large, by one and by as much as can be, is refused. */
    void indexOutside(LiftNovel x, int least, int most, IntConsumer call) {
        for (int number : outside(least, most)) {
            noIndex(x, "with " + number, () -> call.accept(number));
        }
    }

    void argumentOutside(LiftNovel x, int least, int most, IntConsumer call) {
        for (int number : outside(least, most)) {
            noArgument(x, "with " + number, () -> call.accept(number));
        }
    }

    private static int[] outside(int least, int most) {
        return new int[] {least - 1, least - 2, most + 1, most + 2, -1 - most, least + 256,
            Integer.MIN_VALUE, Integer.MIN_VALUE + least, Integer.MAX_VALUE, Integer.MAX_VALUE - most};
    }

    /** Every floor of small, ordinary and great houses is taken, and none beside them, nor one of a house before. */
    void floorsAlone(ObjIntConsumer<LiftNovel> call) {
        for (int floors : FLOORS) {
            LiftNovel x = Scenes.full();
            x.begin(floors);
            indexOutside(x, 0, floors - 1, floor -> call.accept(x, floor));
            for (int floor = 0; floor < floors; floor++) {
                call.accept(x, floor);
            }
            yes("calls with the floors 0 to " + (floors - 1), true);
        }
    }

    void topicsAlone(ObjIntConsumer<LiftNovel> call) {
        LiftNovel x = Scenes.told();
        indexOutside(x, 0, 7, topic -> call.accept(x, topic));
        for (int topic = 0; topic <= 7; topic++) {
            call.accept(x, topic);
        }
        yes("calls with the topics 0 to 7", true);
    }

    /** Of none, of some, of as many instalments as there can be, and of those of a novel before. */
    void instalmentsAlone(ObjIntConsumer<LiftNovel> call) {
        LiftNovel none = new LiftNovel();
        none.addMirror(0, 1);
        indexOutside(none, 0, -1, i -> call.accept(none, i));
        for (LiftNovel x : new LiftNovel[] {Scenes.told(), Scenes.allTold()}) {
            int count = x.instalments();
            indexOutside(x, 0, count - 1, i -> call.accept(x, i));
            for (int i = 0; i < count; i++) {
                call.accept(x, i);
            }
            x.begin(6);
            indexOutside(x, 0, -1, i -> call.accept(x, i));
        }
    }

    /** Of none, of some, and of as many readers as there can be. */
    void readersAlone(ObjIntConsumer<LiftNovel> call) {
        for (LiftNovel x : new LiftNovel[] {new LiftNovel(), Scenes.told(), Scenes.full()}) {
            int count = x.readers();
            indexOutside(x, 0, count - 1, reader -> call.accept(x, reader));
            for (int reader = 0; reader < count; reader++) {
                call.accept(x, reader);
            }
        }
        LiftNovel left = new LiftNovel();
        left.addReader(0, 1);
        left.passHours(2);
        call.accept(left, 0);
        indexOutside(left, 0, 0, reader -> call.accept(left, reader));
    }

    /** Of none, of some, and of as many mirrors as there can be. */
    void mirrorsAlone(ObjIntConsumer<LiftNovel> call) {
        LiftNovel none = Scenes.standingOn(0);
        none.addParagraph(0, 0, 0);
        none.call(0);
        none.passHours(1);
        for (LiftNovel x : new LiftNovel[] {none, Scenes.told(), Scenes.allTold()}) {
            int count = x.mirrors();
            indexOutside(x, 0, count - 1, mirror -> call.accept(x, mirror));
            for (int mirror = 0; mirror < count; mirror++) {
                call.accept(x, mirror);
            }
        }
    }
}
