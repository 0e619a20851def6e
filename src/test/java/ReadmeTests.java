import java.io.IOException;
import java.nio.file.Files;
import java.nio.file.Path;
import java.util.Arrays;
import java.util.regex.Matcher;
import java.util.regex.Pattern;

/** What README.md says of the class's use: its example answers as it says there, and it names every call. */
final class ReadmeTests {
    private static final Pattern EXAMPLE = Pattern.compile("```java\n(.*?)```", Pattern.DOTALL);
    private static final Pattern CALL = Pattern.compile("novel\\.(\\w+)\\(([\\d, ]*)\\); +// (true|false|-?\\d+)(:.*)?");

    private ReadmeTests() {
    }

    static void run(Check check, String readme) throws IOException {
        String text = Files.readString(Path.of(readme));
        for (int i = 0; i < Face.DECLARATIONS.length; i++) {
            String name = Face.DECLARATIONS[i].replaceAll("\\w+ (\\w+)\\(.*", "$1");
            check.yes(i + 2, "README.md names " + name, text.contains("`" + name + "`"));
        }
        Matcher example = EXAMPLE.matcher(text);
        check.yes(1, "README.md has an example", example.find());
        String[] lines = example.group(1).split("\n");
        check.yes(1, "it makes an object", lines[0].startsWith("LiftNovel novel = new LiftNovel(); "));
        LiftNovel novel = new LiftNovel();
        for (String line : Arrays.asList(lines).subList(1, lines.length)) {
            answer(check, novel, line);
        }
    }

    private static void answer(Check check, LiftNovel novel, String line) {
        Matcher call = CALL.matcher(line);
        if (!call.matches()) {
            check.same(1, "README.md", line, "a call and its answer");
            return;
        }
        String[] numbers = call.group(2).isEmpty() ? new String[0] : call.group(2).split(", ");
        Integer[] arguments = Arrays.stream(numbers).map(Integer::valueOf).toArray(Integer[]::new);
        String due = call.group(3).replace("true", "1").replace("false", "0");
        check.same(1, "README.md: " + line, Face.answer(novel, call.group(1), arguments), Double.parseDouble(due));
    }
}
