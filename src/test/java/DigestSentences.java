import java.util.ArrayList;
import java.util.List;
import java.util.TreeSet;
import java.util.regex.Matcher;
import java.util.regex.Pattern;

/** What promise 55 says beside its boundary cases; the numbers are those that the document names, in its order. */
final class DigestSentences {
    private static final String AHEAD = "(whether something is so counts 1 or 0): ";
    private static final String[] PARTS = {
        "floors(), hours(), liftAt(), goes(), calls(), stuckFor(), wear(), limit(), suspense(), cuts(), instalments(), "
            + "mostThrilling(), longestWait(), climbs(), subscribers(), warmest(), kindest(), hoursUntilStuck(), "
            + "printedIn(20), subscribersIn(20), bestToCall(10), bestToAllow(10)",
        "then for each floor isCalled(), paragraphs(), nextParagraph(), cutOn(), hoursUntilStop()",
        "for each topic isForbidden(), toCome()",
        "for each instalment floorIn(), paragraphIn(), thrillIn(), hourIn()",
        "for each reader warmthOf(), isSubscriber()",
        "for each mirror gradesBy(), favouriteOf()",
    };
    private static final Pattern CALL = Pattern.compile("(\\w+)\\((\\d*)\\)");

    private DigestSentences() {
    }

    static void run(Sentences all) {
        all.promise(55, "Computes a checksum", DigestSentences::checksum);
        all.promise(55, "for each of the following numbers x, d becomes d * 31 + x", DigestSentences::numberByNumber);
        all.promise(55, AHEAD + String.join("; ", PARTS) + " (all in their order)", DigestSentences::partByPart);
        for (String part : PARTS) {
            all.promise(55, part, e -> everyNumberCounts(e, part));
        }
        all.promise(55, "Returns d", DigestSentences::returned);
    }

    /** The numbers of a part of the document's list, as the object answers them. */
    private static List<Long> numbers(LiftNovel x, String part) {
        List<Long> numbers = new ArrayList<>();
        boolean isForEach = part.contains("for each ");
        for (int index = 0; index < howMany(x, part); index++) {
            Matcher call = CALL.matcher(part);
            while (call.find()) {
                String argument = isForEach ? String.valueOf(index) : call.group(2);
                numbers.add((long) (argument.isEmpty() ? Face.answer(x, call.group(1))
                        : Face.answer(x, call.group(1), Integer.valueOf(argument))));
            }
        }
        return numbers;
    }

    private static int howMany(LiftNovel x, String part) {
        switch (part.replaceAll(".*for each (\\w+) .*", "$1")) {
            case "floor":
                return x.floors();
            case "topic":
                return 8;
            case "instalment":
                return x.instalments();
            case "reader":
                return x.readers();
            case "mirror":
                return x.mirrors();
            default:
                return 1;
        }
    }

    private static long due(LiftNovel x) {
        long d = 2293;
        for (String part : PARTS) {
            for (long number : numbers(x, part)) {
                d = d * 31 + number;
            }
        }
        return d;
    }

    /** The same for objects that answer the same, and another one hour by hour. */
    private static void checksum(Edge e) {
        for (Scenes.Maker maker : Scenes.MAKERS) {
            LiftNovel x = maker.make();
            e.same("digest() of two alike", x.digest(), maker.make().digest());
            e.same("digest() again", x.digest(), x.digest());
            long before = x.digest();
            x.passHours(1);
            e.no("digest() is the same an hour on", x.digest() == before);
        }
    }

    private static void numberByNumber(Edge e) {
        for (Scenes.Maker maker : Scenes.MAKERS) {
            LiftNovel x = maker.make();
            for (int hour = 0; hour < 30; hour++) {
                e.same("digest() " + hour + " hours on", x.digest(), due(x));
                x.passHours(1);
            }
        }
    }

    private static void partByPart(Edge e) {
        LiftNovel[] objects = {Scenes.full(), Scenes.allTold(), Scenes.censored(), Scenes.busy()};
        for (LiftNovel x : objects) {
            int count = 0;
            for (String part : PARTS) {
                count += numbers(x, part).size();
            }
            e.same("how many numbers the document names", count, DigestTests.numbers(x).length);
            e.same("digest()", x.digest(), due(x));
        }
    }

    /** The checksum is due for objects among which each number of the part differs. */
    private static void everyNumberCounts(Edge e, String part) {
        String forEach = part.contains("for each ") ? part.replaceAll("(.*for each \\w+ ).*", "$1") : "";
        for (Scenes.Maker maker : Scenes.MAKERS) {
            LiftNovel x = maker.make();
            e.same("digest()", x.digest(), due(x));
        }
        Matcher call = CALL.matcher(part);
        while (call.find()) {
            TreeSet<Long> numbers = new TreeSet<>();
            for (Scenes.Maker maker : Scenes.MAKERS) {
                numbers.addAll(numbers(maker.make(), forEach + call.group()));
            }
            e.yes(call.group() + " differs", numbers.size() > 1);
        }
    }

    /** What it becomes by the last number: whether the only reader subscribes, or the only mirror's favourite. */
    private static void returned(Edge e) {
        LiftNovel x = new LiftNovel();
        x.addReader(0, 5);
        long withoutTheLast = 2293;
        List<Long> numbers = new ArrayList<>();
        for (String part : PARTS) {
            numbers.addAll(numbers(x, part));
        }
        for (long number : numbers.subList(0, numbers.size() - 1)) {
            withoutTheLast = withoutTheLast * 31 + number;
        }
        e.same("digest(), a subscriber is the last number", x.digest(), withoutTheLast * 31 + 1);
    }
}
