import java.util.function.Consumer;

/** The sentences of the document, each with a test of its own, or free. */
final class Sentences {
    private final Check check;
    private final Document document;
    private int count = 0;

    Sentences(Check check, Document document) {
        this.check = check;
        this.document = document;
    }

    /** A sentence of the section "Promise n". */
    void promise(int promise, String words, Consumer<Edge> test) {
        sentence(promise, Document.promise(promise), words, test);
    }

    /** A sentence of the section "Terms", as far as it is seen by the calls of a promise. */
    void terms(int promise, String words, Consumer<Edge> test) {
        sentence(promise, Document.TERMS, words, test);
    }

    /** A sentence of the section "What it is". */
    void use(int promise, String words, Consumer<Edge> test) {
        sentence(promise, Document.USE, words, test);
    }

    /** A line of the section "The public face". */
    void face(int promise, String words, Consumer<Edge> test) {
        sentence(promise, Document.FACE, words, test);
    }

    /** A sentence that leaves something free: whatever the program does, it holds, so there is nothing to test. */
    void free(String section, String words) {
        if (!document.take(section, words)) {
            check.missing(section + ", where these words do not stand: " + words);
        }
    }

    private void sentence(int promise, String section, String words, Consumer<Edge> test) {
        count++;
        check.yes(promise, "\"" + words + "\" stands in the section " + section, document.take(section, words));
        int before = check.looked();
        check.about(words);
        try {
            test.accept(new Edge(check, promise));
        } catch (RuntimeException e) {
            check.same(promise, "a call in the test", e.toString(), "no exception");
        }
        check.yes(promise, "the test looks at something", check.looked() > before);
        check.about("");
    }

    void everyWordHasATest() {
        for (String words : document.untested()) {
            check.missing(words);
        }
    }

    int count() {
        return count;
    }
}
