import java.lang.reflect.Constructor;
import java.lang.reflect.Method;
import java.lang.reflect.Modifier;
import java.util.ArrayList;
import java.util.List;
import java.util.regex.Matcher;
import java.util.regex.Pattern;

/** The lines of the public face, the signatures of the promises, and in which order the program tells the calls. */
final class FaceSentences {
    private static final Pattern QUOTED = Pattern.compile("`(\\w+)`");
    private static final Pattern CALL = Pattern.compile("public \\w+ (\\w+)\\(");
    private static final String PART = "// ---- ";

    private FaceSentences() {
    }

    /** The program's text is given as one line. */
    static void run(Sentences all, String program) {
        all.face(1, "```java public final class LiftNovel {", e -> itself(e, program));
        all.face(1, "public LiftNovel();", e -> constructor(e, program));
        all.promise(1, "`LiftNovel()`", e -> constructor(e, program));
        for (int i = 0; i < Face.DECLARATIONS.length; i++) {
            String declaration = Face.DECLARATIONS[i];
            all.face(i + 2, "public " + declaration + ";", e -> method(e, program, declaration));
            all.promise(i + 2, "`" + declaration + "`", e -> method(e, program, declaration));
        }
        parts(all, program);
    }

    private static void parts(Sentences all, String program) {
        part(all, program, 2, "the house", "Ahead of the calls `begin`, `addParagraph`, `turnTopic`, `setLimit`, "
                + "`addReader`, `addMirror` the interface says: ");
        part(all, program, 8, "the lift", "Ahead of the calls `call`, `repair`, `passHours`, `floors`, `hours`, "
                + "`liftAt`, `goes`, `isCalled`, `calls`, `stuckFor`, `wear`, `limit`, `suspense` the interface says: ");
        part(all, program, 21, "chapters", "Ahead of the calls `paragraphs`, `nextParagraph`, `topicOf`, `thrillOf`, "
                + "`cutOn`, `isForbidden`, `cuts`, `toCome` the interface says: ");
        part(all, program, 29, "instalments", "Ahead of the calls `instalments`, `floorIn`, `paragraphIn`, "
                + "`thrillIn`, `hourIn`, `mostThrilling`, `longestWait`, `climbs` the interface says: ");
        part(all, program, 37, "readers and mirrors", "Ahead of the calls `readers`, `subscribers`, `tasteOf`, "
                + "`warmthOf`, `isSubscriber`, `warmest`, `mirrors`, `grade`, `gradesBy`, `favouriteOf`, `kindest` "
                + "the interface says: ");
        part(all, program, 48, "what would be", "Ahead of the calls `hoursUntilStop`, `hoursUntilStuck`, `printedIn`, "
                + "`subscribersIn`, `bestToCall`, `bestToAllow`, `meanWarmth`, `digest` the interface says: ");
    }

    private static void part(Sentences all, String program, int promise, String title, String calls) {
        all.terms(promise, calls + "---- " + title + ".", e -> callsUnder(e, program, title, calls));
    }

    /** The calls between the part's title and the next one are those of the sentence, in their order. */
    private static void callsUnder(Edge e, String program, String title, String calls) {
        int start = program.indexOf(PART + title + " public ");
        e.yes("the program says \"---- " + title + "\" ahead of a call", start >= 0);
        if (start < 0) {
            return;
        }
        int end = program.indexOf(PART, start + PART.length());
        String under = program.substring(start, end < 0 ? program.length() : end);
        e.same("the calls under it", all(CALL, under).toString(), all(QUOTED, calls).toString());
        e.same("where it is said again", program.indexOf(PART + title + " ", start + 1), -1);
    }

    private static List<String> all(Pattern pattern, String text) {
        List<String> found = new ArrayList<>();
        Matcher matcher = pattern.matcher(text);
        while (matcher.find()) {
            found.add(matcher.group(1));
        }
        return found;
    }

    private static void itself(Edge e, String program) {
        e.yes("public", Modifier.isPublic(LiftNovel.class.getModifiers()));
        e.yes("final", Modifier.isFinal(LiftNovel.class.getModifiers()));
        e.same("its whole name, without a package", LiftNovel.class.getName(), "LiftNovel");
        e.yes("the program's text has it", program.contains("public final class LiftNovel {"));
    }

    private static void constructor(Edge e, String program) {
        Constructor<?>[] constructors = LiftNovel.class.getDeclaredConstructors();
        e.same("constructors", constructors.length, 1);
        e.yes("public", Modifier.isPublic(constructors[0].getModifiers()));
        e.same("parameters", constructors[0].getParameterCount(), 0);
        e.same("exceptions", constructors[0].getExceptionTypes().length, 0);
        e.yes("the program's text has it", program.contains("public LiftNovel() {"));
    }

    private static void method(Edge e, String program, String declaration) {
        String name = declaration.replaceAll("\\(.*", "").replaceAll(".* ", "");
        int found = 0;
        for (Method method : LiftNovel.class.getDeclaredMethods()) {
            if (method.getName().equals(name)) {
                found++;
                e.same("its declaration", Face.declaration(method), Face.withoutNames(declaration));
                e.yes("public", Modifier.isPublic(method.getModifiers()));
                e.no("static", Modifier.isStatic(method.getModifiers()));
            }
        }
        e.same("methods of the name " + name, found, 1);
        e.yes("the program's text has it, with its parameters' names", program.contains("public " + declaration + " {"));
    }
}
