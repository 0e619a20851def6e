import java.io.IOException;
import java.nio.file.Files;
import java.nio.file.Path;
import java.util.ArrayList;
import java.util.BitSet;
import java.util.LinkedHashMap;
import java.util.List;
import java.util.Map;
import java.util.regex.Matcher;
import java.util.regex.Pattern;

/** The document's text by its sections, and which of its words have a test of their own. */
final class Document {
    static final String USE = "What it is";
    static final String FACE = "The public face";
    static final String TERMS = "Terms";
    static final String NOT_PROMISED = "Not promised";
    private static final String PROMISE = "Promise ";

    private static final Pattern WORD = Pattern.compile("[A-Za-z0-9]+");
    /** Between two sentences that have tests it tells nothing more. */
    private static final String JOIN = "and";

    private final Map<String, String> texts = new LinkedHashMap<>();
    private final Map<String, BitSet> tested = new LinkedHashMap<>();

    private Document() {
    }

    static Document read(String path) throws IOException {
        Document document = new Document();
        for (String part : Files.readString(Path.of(path)).split("(?m)^## ")) {
            int end = part.indexOf('\n');
            if (end >= 0) {
                document.add(part.substring(0, end).replaceAll(":.*", "").trim(), part.substring(end));
            }
        }
        return document;
    }

    static String promise(int number) {
        return PROMISE + number;
    }

    private void add(String section, String text) {
        texts.put(section, oneLine(text));
        tested.put(section, new BitSet());
    }

    static String oneLine(String text) {
        return text.replaceAll("\\s+", " ").trim();
    }

    String text(String section) {
        return texts.getOrDefault(section, "");
    }

    /** Answers whether the words stand in the section; they count as tested from now on. */
    boolean take(String section, String words) {
        String text = text(section);
        int at = text.indexOf(words);
        for (int next = at; next >= 0; next = text.indexOf(words, next + 1)) {
            tested.get(section).set(next, next + words.length());
        }
        return at >= 0;
    }

    /** What no test took, of all sections. */
    List<String> untested() {
        List<String> found = new ArrayList<>();
        for (String section : texts.keySet()) {
            for (String words : untestedIn(section)) {
                found.add(section + ": .." + words + "..");
            }
        }
        return found;
    }

    /** Words one behind the other as one text. */
    private List<String> untestedIn(String section) {
        List<String> found = new ArrayList<>();
        String text = text(section);
        BitSet isTested = tested.get(section);
        int last = -1;
        int start = -1;
        Matcher word = WORD.matcher(text);
        while (word.find()) {
            boolean isFree = word.group().equals(JOIN) || isTested.nextClearBit(word.start()) >= word.end();
            if (isFree && start >= 0) {
                found.add(text.substring(start, last));
                start = -1;
            } else if (!isFree && start < 0) {
                start = word.start();
            }
            last = word.end();
        }
        if (start >= 0) {
            found.add(text.substring(start, last));
        }
        return found;
    }
}
