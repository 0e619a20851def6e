import java.util.TreeSet;

/** Counts what held and what did not, and which promises were looked at. */
final class Check {
    private final TreeSet<Integer> promises = new TreeSet<>();
    private int passed = 0;
    private int failed = 0;
    private String sentence = "";

    /** What is looked at from now on is about this sentence of the document; about none in particular with "". */
    void about(String words) {
        sentence = words.isEmpty() ? "" : " (\"" + words + "\")";
    }

    /** Words of the document without a test. */
    void missing(String words) {
        failed++;
        System.out.println("no test speaks of " + words);
    }

    void same(int promise, String what, long got, long want) {
        note(promise, got == want, what + " answered " + got + ", due is " + want);
    }

    void same(int promise, String what, double got, double want) {
        note(promise, got == want, what + " answered " + got + ", due is " + want);
    }

    void same(int promise, String what, String got, String want) {
        note(promise, got.equals(want), what + " answered\n  " + got + "\ndue is\n  " + want);
    }

    void yes(int promise, String what, boolean isSo) {
        note(promise, isSo, what + " is not so, but it should be");
    }

    void no(int promise, String what, boolean isSo) {
        note(promise, !isSo, what + " is so, but it should not be");
    }

    void noIndex(int promise, LiftNovel novel, String what, Runnable call) {
        refused(promise, novel, what, IndexOutOfBoundsException.class, call);
    }

    void noArgument(int promise, LiftNovel novel, String what, Runnable call) {
        refused(promise, novel, what, IllegalArgumentException.class, call);
    }

    void noState(int promise, LiftNovel novel, String what, Runnable call) {
        refused(promise, novel, what, IllegalStateException.class, call);
    }

    /** The very exception, none of a class below it, as the machine would throw it, and nothing changed. */
    private void refused(int promise, LiftNovel novel, String what, Class<?> wanted, Runnable call) {
        String before = Snapshot.of(novel);
        String got = "nothing";
        try {
            call.run();
        } catch (RuntimeException e) {
            got = e.getClass().getName();
        }
        same(promise, what + " throws", got, wanted.getName());
        same(promise, what + " leaves all as it was", Snapshot.of(novel), before);
    }

    /** A call that only asks, so that all is as it was behind it. */
    void asks(int promise, LiftNovel novel, String what, Runnable call) {
        String before = Snapshot.of(novel);
        call.run();
        same(promise, what + " changes nothing", Snapshot.of(novel), before);
    }

    private void note(int promise, boolean isRight, String complaint) {
        promises.add(promise);
        if (isRight) {
            passed++;
        } else {
            failed++;
            System.out.println("promise " + promise + sentence + ": " + complaint);
        }
    }

    void everyPromiseFrom(int first, int last) {
        for (int promise = first; promise <= last; promise++) {
            if (!promises.contains(promise)) {
                failed++;
                System.out.println("promise " + promise + " has no test");
            }
        }
    }

    int looked() {
        return passed + failed;
    }

    int passed() {
        return passed;
    }

    int failed() {
        return failed;
    }
}
