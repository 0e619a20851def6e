import java.lang.reflect.Constructor;
import java.lang.reflect.Field;
import java.lang.reflect.Method;
import java.lang.reflect.Modifier;
import java.util.Arrays;
import java.util.TreeSet;
import java.util.stream.Collectors;

/** The public face, as the document's code block gives it, and nothing beside it. */
final class FaceTests {
    private static final String INDEX = "IndexOutOfBoundsException";
    private static final String ARGUMENT = "IllegalArgumentException";
    private static final String STATE = "IllegalStateException";

    /** In the order of the promises, from the second one on. */
    private static final String[] FACE = {
        "int begin(int) " + ARGUMENT,
        "int addParagraph(int,int,int) " + INDEX + "," + ARGUMENT + "," + STATE,
        "boolean turnTopic(int) " + INDEX,
        "int setLimit(int) " + ARGUMENT,
        "int addReader(int,int) " + ARGUMENT + "," + STATE,
        "int addMirror(int,int) " + ARGUMENT + "," + STATE,
        "boolean call(int) " + INDEX,
        "int repair() ",
        "int passHours(int) " + ARGUMENT,
        "int floors() ",
        "int hours() ",
        "int liftAt() ",
        "int goes() ",
        "boolean isCalled(int) " + INDEX,
        "int calls() ",
        "int stuckFor() ",
        "int wear() ",
        "int limit() ",
        "int suspense() ",
        "int paragraphs(int) " + INDEX,
        "int nextParagraph(int) " + INDEX,
        "int topicOf(int,int) " + INDEX,
        "int thrillOf(int,int) " + INDEX,
        "int cutOn(int) " + INDEX,
        "boolean isForbidden(int) " + INDEX,
        "int cuts() ",
        "int toCome(int) " + INDEX,
        "int instalments() ",
        "int floorIn(int) " + INDEX,
        "int paragraphIn(int) " + INDEX,
        "int thrillIn(int) " + INDEX,
        "int hourIn(int) " + INDEX,
        "int mostThrilling() ",
        "int longestWait() ",
        "int climbs() ",
        "int readers() ",
        "int subscribers() ",
        "int tasteOf(int) " + INDEX,
        "int warmthOf(int) " + INDEX,
        "boolean isSubscriber(int) " + INDEX,
        "int warmest() ",
        "int mirrors() ",
        "int grade(int,int) " + INDEX,
        "int gradesBy(int) " + INDEX,
        "int favouriteOf(int) " + INDEX,
        "int kindest() ",
        "int hoursUntilStop(int) " + INDEX,
        "int hoursUntilStuck() ",
        "int printedIn(int) " + ARGUMENT,
        "int subscribersIn(int) " + ARGUMENT,
        "int bestToCall(int) " + ARGUMENT,
        "int bestToAllow(int) " + ARGUMENT,
        "double meanWarmth() ",
        "long digest() ",
    };

    private FaceTests() {
    }

    static void run(Check check) {
        TreeSet<String> face = new TreeSet<>();
        TreeSet<String> names = new TreeSet<>();
        for (Method method : LiftNovel.class.getDeclaredMethods()) {
            if (Modifier.isPublic(method.getModifiers())) {
                face.add(words(method));
                names.add(method.getName());
            }
        }
        for (int i = 0; i < FACE.length; i++) {
            check.yes(i + 2, "the face has " + FACE[i], face.remove(FACE[i]));
        }
        check.same(1, "what the face has beside it", face.toString(), "[]");
        check.yes(1, "public and final", Modifier.isPublic(LiftNovel.class.getModifiers())
                && Modifier.isFinal(LiftNovel.class.getModifiers()));
        constructors(check);
        fields(check);
        otherMethods(check, LiftNovel.class, names);
        for (Class<?> inside : LiftNovel.class.getDeclaredClasses()) {
            check.yes(1, inside + " is static", Modifier.isStatic(inside.getModifiers()));
            check.no(1, inside + " is public or protected",
                    Modifier.isPublic(inside.getModifiers()) || Modifier.isProtected(inside.getModifiers()));
            otherMethods(check, inside, names);
        }
    }

    private static void constructors(Check check) {
        Constructor<?>[] constructors = LiftNovel.class.getDeclaredConstructors();
        check.same(1, "constructors", constructors.length, 1);
        check.yes(1, "the constructor is public", Modifier.isPublic(constructors[0].getModifiers()));
        check.same(1, "the constructor's parameters", constructors[0].getParameterCount(), 0);
    }

    private static void fields(Check check) {
        for (Field field : LiftNovel.class.getDeclaredFields()) {
            check.yes(1, field + " is private", Modifier.isPrivate(field.getModifiers()));
            check.yes(1, field + " is final", Modifier.isFinal(field.getModifiers()));
        }
    }

    private static void otherMethods(Check check, Class<?> owner, TreeSet<String> names) {
        for (Method method : owner.getDeclaredMethods()) {
            boolean isFace = owner == LiftNovel.class && Modifier.isPublic(method.getModifiers());
            if (isFace || method.isSynthetic()) {
                continue;
            }
            check.no(1, method + " bears the name of a public one", names.contains(method.getName()));
            check.no(1, method + " is public or protected",
                    Modifier.isPublic(method.getModifiers()) || Modifier.isProtected(method.getModifiers()));
            check.yes(1, method + " is private, or inside",
                    owner != LiftNovel.class || Modifier.isPrivate(method.getModifiers()));
        }
    }

    private static String words(Method method) {
        return method.getReturnType().getSimpleName() + " " + method.getName()
                + "(" + list(method.getParameterTypes()) + ") " + list(method.getExceptionTypes());
    }

    private static String list(Class<?>[] types) {
        return Arrays.stream(types).map(Class::getSimpleName).collect(Collectors.joining(","));
    }
}
