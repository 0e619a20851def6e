import java.io.IOException;
import java.nio.file.Files;
import java.nio.file.Path;
import java.util.ArrayList;
import java.util.BitSet;
import java.util.LinkedHashMap;
import java.util.List;
import java.util.Map;
import java.util.regex.Matcher;
import java.util.regex.Pattern;

/** The document's text by its sections, and which of its words have a test of their own. */
final class Document {
    static final String USE = "What it is";
    static final String TERMS = "Terms";
    private static final String PROMISE = "Promise ";

    /** The words by which a sentence names a boundary case: too small, too large, empty, full, refused, and the like. */
    private static final Pattern BOUNDARY = Pattern.compile("Throws|\\bat (?:most|least|first)\\b|-1\\b|\\bwithout\\b"
            + "|of (?:several|two)\\b|wraps around|\\bfrom 0\\b|towards 0|or more\\b|neither|changes nothing"
            + "|nothing is changed|[Ii]f (?:some|no) floor|if by none|\\bempty\\b|already|\\b0 if\\b|\\b[012] to \\d"
            + "|several exceptions|forbidden or not|no subscriber|not (?:stuck|warm|called|printed)|any more"
            + "|nothing was printed|\\(0|1 or 0");
    private static final int WORDS_SHOWN = 40;

    private final Map<String, String> texts = new LinkedHashMap<>();
    private final Map<String, BitSet> tested = new LinkedHashMap<>();

    private Document() {
    }

    static Document read(String path) throws IOException {
        Document document = new Document();
        for (String part : Files.readString(Path.of(path)).split("(?m)^## ")) {
            int end = part.indexOf('\n');
            if (end >= 0) {
                document.add(part.substring(0, end).replaceAll(":.*", "").trim(), part.substring(end));
            }
        }
        return document;
    }

    static String promise(int number) {
        return PROMISE + number;
    }

    private void add(String section, String text) {
        texts.put(section, text.replaceAll("\\s+", " "));
        tested.put(section, new BitSet());
    }

    /** Answers whether the words stand in the section; they count as tested from now on. */
    boolean take(String section, String words) {
        String text = texts.getOrDefault(section, "");
        int at = text.indexOf(words);
        for (int next = at; next >= 0; next = text.indexOf(words, next + 1)) {
            tested.get(section).set(next, next + words.length());
        }
        return at >= 0;
    }

    /** The boundary cases of the use, the terms and the promises that no test took, with the words about them. */
    List<String> untested() {
        List<String> found = new ArrayList<>();
        for (Map.Entry<String, String> section : texts.entrySet()) {
            String name = section.getKey();
            if (!name.equals(USE) && !name.equals(TERMS) && !name.startsWith(PROMISE)) {
                continue;
            }
            Matcher boundary = BOUNDARY.matcher(section.getValue());
            while (boundary.find()) {
                if (tested.get(name).nextClearBit(boundary.start()) < boundary.end()) {
                    found.add(name + ": .." + around(section.getValue(), boundary) + "..");
                }
            }
        }
        return found;
    }

    private static String around(String text, Matcher boundary) {
        return text.substring(Math.max(0, boundary.start() - WORDS_SHOWN),
                Math.min(text.length(), boundary.end() + WORDS_SHOWN));
    }
}
