import java.lang.reflect.InvocationTargetException;
import java.lang.reflect.Method;
import java.lang.reflect.Modifier;
import java.util.Arrays;
import java.util.stream.Collectors;

/** The public face, written out, and what the class has of it. */
final class Face {
    private static final String INDEX = " throws IndexOutOfBoundsException";
    private static final String ARGUMENT = " throws IllegalArgumentException";
    private static final String ARGUMENT_STATE = ARGUMENT + ", IllegalStateException";

    /** In the order of the promises, from the second one on. */
    static final String[] DECLARATIONS = {
        "int begin(int floors)" + ARGUMENT,
        "int addParagraph(int floor, int topic, int thrill)" + INDEX + ", IllegalArgumentException, IllegalStateException",
        "boolean turnTopic(int topic)" + INDEX,
        "int setLimit(int limit)" + ARGUMENT,
        "int addReader(int taste, int warm)" + ARGUMENT_STATE,
        "int addMirror(int likes, int dislikes)" + ARGUMENT_STATE,
        "boolean call(int floor)" + INDEX,
        "int repair()",
        "int passHours(int hours)" + ARGUMENT,
        "int floors()",
        "int hours()",
        "int liftAt()",
        "int goes()",
        "boolean isCalled(int floor)" + INDEX,
        "int calls()",
        "int stuckFor()",
        "int wear()",
        "int limit()",
        "int suspense()",
        "int paragraphs(int floor)" + INDEX,
        "int nextParagraph(int floor)" + INDEX,
        "int topicOf(int floor, int paragraph)" + INDEX,
        "int thrillOf(int floor, int paragraph)" + INDEX,
        "int cutOn(int floor)" + INDEX,
        "boolean isForbidden(int topic)" + INDEX,
        "int cuts()",
        "int toCome(int topic)" + INDEX,
        "int instalments()",
        "int floorIn(int instalment)" + INDEX,
        "int paragraphIn(int instalment)" + INDEX,
        "int thrillIn(int instalment)" + INDEX,
        "int hourIn(int instalment)" + INDEX,
        "int mostThrilling()",
        "int longestWait()",
        "int climbs()",
        "int readers()",
        "int subscribers()",
        "int tasteOf(int reader)" + INDEX,
        "int warmthOf(int reader)" + INDEX,
        "boolean isSubscriber(int reader)" + INDEX,
        "int warmest()",
        "int mirrors()",
        "int grade(int mirror, int instalment)" + INDEX,
        "int gradesBy(int mirror)" + INDEX,
        "int favouriteOf(int mirror)" + INDEX,
        "int kindest()",
        "int hoursUntilStop(int floor)" + INDEX,
        "int hoursUntilStuck()",
        "int printedIn(int hours)" + ARGUMENT,
        "int subscribersIn(int hours)" + ARGUMENT,
        "int bestToCall(int hours)" + ARGUMENT,
        "int bestToAllow(int hours)" + ARGUMENT,
        "double meanWarmth()",
        "long digest()",
    };

    private Face() {
    }

    /** A method as the face would declare it, but for the names of its parameters. */
    static String declaration(Method method) {
        String thrown = list(method.getExceptionTypes());
        return method.getReturnType().getSimpleName() + " " + method.getName()
                + "(" + list(method.getParameterTypes()) + ")" + (thrown.isEmpty() ? "" : " throws " + thrown);
    }

    private static String list(Class<?>[] types) {
        return Arrays.stream(types).map(Class::getSimpleName).collect(Collectors.joining(", "));
    }

    static String withoutNames(String declaration) {
        return declaration.replaceAll("int \\w+([,)])", "int$1");
    }

    /** What the public method of this name answers; a boolean counts 1 or 0. */
    static double answer(LiftNovel x, String name, Integer... arguments) {
        Object answer = ask(x, name, arguments);
        return answer instanceof Boolean ? (Boolean) answer ? 1 : 0 : ((Number) answer).doubleValue();
    }

    private static Object ask(LiftNovel x, String name, Integer... arguments) {
        for (Method method : LiftNovel.class.getDeclaredMethods()) {
            if (method.getName().equals(name) && Modifier.isPublic(method.getModifiers())) {
                return invoke(x, method, arguments);
            }
        }
        throw new IllegalStateException("the face has no " + name);
    }

    private static Object invoke(LiftNovel x, Method method, Integer... arguments) {
        try {
            return method.invoke(x, (Object[]) arguments);
        } catch (IllegalAccessException | InvocationTargetException e) {
            throw new IllegalStateException(method.getName() + " throws " + e.getCause());
        }
    }
}
