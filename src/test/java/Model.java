import java.util.ArrayList;
import java.util.List;
import java.util.TreeSet;

/**
 * The document once more, written apart from the program and in another shape: paragraphs know what became of
 * them, and what would be is asked of a whole copy. It answers right calls alone.
 */
final class Model {
    static final class Paragraph {
        int topic;
        int thrill;
        boolean printed;
        boolean cut;

        boolean isToCome() {
            return !printed && !cut;
        }
    }

    static final class Instalment {
        Paragraph paragraph;
        int floor;
        int number;
        int thrill;
        int hour;
    }

    static final class Reader {
        int taste;
        int warmth;
        boolean subscribes = true;
    }

    final List<List<Paragraph>> chapters = new ArrayList<>();
    final List<Instalment> instalments = new ArrayList<>();
    final List<Reader> readers = new ArrayList<>();
    final List<int[]> mirrors = new ArrayList<>();
    final TreeSet<Integer> forbidden = new TreeSet<>();
    final TreeSet<Integer> called = new TreeSet<>();
    int hour;
    int at;
    int way;
    int stuck;
    int wear;
    int limit = 20;
    int suspense;

    Model(int floors) {
        begin(floors);
    }

    int begin(int floors) {
        chapters.clear();
        for (int floor = 0; floor < floors; floor++) {
            chapters.add(new ArrayList<>());
        }
        instalments.clear();
        called.clear();
        at = 0;
        way = 0;
        stuck = 0;
        wear = 0;
        suspense = 0;
        return subscribers();
    }

    int addParagraph(int floor, int topic, int thrill) {
        Paragraph paragraph = new Paragraph();
        paragraph.topic = topic;
        paragraph.thrill = thrill;
        chapters.get(floor).add(paragraph);
        return chapters.get(floor).size() - 1;
    }

    boolean turnTopic(int topic) {
        if (!forbidden.remove(topic)) {
            forbidden.add(topic);
        }
        return forbidden.contains(topic);
    }

    int addReader(int taste, int warm) {
        Reader reader = new Reader();
        reader.taste = taste;
        reader.warmth = warm;
        readers.add(reader);
        return readers.size() - 1;
    }

    int addMirror(int likes, int dislikes) {
        mirrors.add(new int[] {likes, dislikes});
        return mirrors.size() - 1;
    }

    int repair() {
        int before = stuck;
        stuck = 0;
        wear = 0;
        return before;
    }

    int passHours(int hours) {
        int before = instalments.size();
        for (int i = 0; i < hours; i++) {
            passHour();
        }
        return instalments.size() - before;
    }

    private void passHour() {
        int before = instalments.size();
        if (stuck != 0) {
            stuck = stuck - 1;
            suspense = suspense + 1;
            if (!instalments.isEmpty()) {
                suspense = suspense + instalments.get(instalments.size() - 1).paragraph.thrill;
            }
        } else if (!called.isEmpty()) {
            if (!called.contains(at)) {
                chooseWay();
                at = at + way;
                wear = wear + 1;
            }
            if (called.remove(at)) {
                stop();
            }
        }
        if (instalments.size() == before) {
            for (Reader reader : readers) {
                if (reader.subscribes && reader.warmth == 0) {
                    reader.subscribes = false;
                } else if (reader.subscribes) {
                    reader.warmth = reader.warmth - 1;
                }
            }
        }
        if (called.isEmpty()) {
            way = 0;
        }
        if (stuck == 0 && wear >= limit) {
            stuck = limit / 4 + 1;
            wear = 0;
        }
        hour = hour + 1;
    }

    private void chooseWay() {
        Integer above = called.higher(at);
        Integer below = called.lower(at);
        if (way == 1 && above != null || way == -1 && below != null) {
            return;
        }
        if (above == null) {
            way = -1;
        } else if (below == null) {
            way = 1;
        } else {
            way = above - at <= at - below ? 1 : -1;
        }
    }

    private void stop() {
        List<Paragraph> chapter = chapters.get(at);
        int number = next(at);
        if (number == -1) {
            return;
        }
        Paragraph paragraph = chapter.get(number);
        if (forbidden.contains(paragraph.topic)) {
            paragraph.cut = true;
            return;
        }
        paragraph.printed = true;
        Instalment instalment = new Instalment();
        instalment.paragraph = paragraph;
        instalment.floor = at;
        instalment.number = number;
        instalment.thrill = paragraph.thrill + suspense;
        instalment.hour = hour;
        instalments.add(instalment);
        suspense = 0;
        for (Reader reader : readers) {
            if (reader.subscribes) {
                reader.warmth += reader.taste == paragraph.topic ? instalment.thrill : instalment.thrill / 3;
                if (reader.warmth > 99) {
                    reader.warmth = 99;
                }
            }
        }
    }

    int next(int floor) {
        for (int number = 0; number < chapters.get(floor).size(); number++) {
            if (chapters.get(floor).get(number).isToCome()) {
                return number;
            }
        }
        return -1;
    }

    int cutOn(int floor) {
        return (int) chapters.get(floor).stream().filter(paragraph -> paragraph.cut).count();
    }

    int cuts() {
        return (int) chapters.stream().flatMap(List::stream).filter(paragraph -> paragraph.cut).count();
    }

    int toCome(int topic) {
        return (int) chapters.stream().flatMap(List::stream)
                .filter(paragraph -> paragraph.isToCome() && paragraph.topic == topic).count();
    }

    int mostThrilling() {
        int greatest = instalments.stream().mapToInt(instalment -> instalment.thrill).max().orElse(-1);
        for (int i = 0; i < instalments.size(); i++) {
            if (instalments.get(i).thrill == greatest) {
                return i;
            }
        }
        return -1;
    }

    int longestWait() {
        TreeSet<Integer> waits = new TreeSet<>();
        waits.add(0);
        for (int i = 0; i + 1 < instalments.size(); i++) {
            waits.add(instalments.get(i + 1).hour - instalments.get(i).hour);
        }
        return waits.last();
    }

    int climbs() {
        int climbs = 0;
        for (int i = 0; i + 1 < instalments.size(); i++) {
            climbs += instalments.get(i).floor < instalments.get(i + 1).floor ? 1 : 0;
        }
        return climbs;
    }

    int subscribers() {
        return (int) readers.stream().filter(reader -> reader.subscribes).count();
    }

    int warmest() {
        for (int warmth = 99; warmth >= 0; warmth--) {
            for (int i = 0; i < readers.size(); i++) {
                if (readers.get(i).subscribes && readers.get(i).warmth == warmth) {
                    return i;
                }
            }
        }
        return -1;
    }

    int sumOfWarmths() {
        return readers.stream().filter(reader -> reader.subscribes).mapToInt(reader -> reader.warmth).sum();
    }

    double meanWarmth() {
        return subscribers() == 0 ? 0 : (double) sumOfWarmths() / subscribers();
    }

    int grade(int mirror, int i) {
        Instalment instalment = instalments.get(i);
        int grade = 4 + instalment.thrill / 3;
        grade += instalment.paragraph.topic == mirrors.get(mirror)[0] ? 2 : 0;
        grade -= instalment.paragraph.topic == mirrors.get(mirror)[1] ? 3 : 0;
        return grade < 0 ? 0 : grade > 10 ? 10 : grade;
    }

    int gradesBy(int mirror) {
        int sum = 0;
        for (int i = 0; i < instalments.size(); i++) {
            sum += grade(mirror, i);
        }
        return sum;
    }

    int favouriteOf(int mirror) {
        for (int grade = 10; grade >= 0; grade--) {
            for (int i = 0; i < instalments.size(); i++) {
                if (grade(mirror, i) == grade) {
                    return i;
                }
            }
        }
        return -1;
    }

    int kindest() {
        int kindest = -1;
        for (int mirror = mirrors.size() - 1; mirror >= 0; mirror--) {
            if (kindest == -1 || gradesBy(mirror) >= gradesBy(kindest)) {
                kindest = mirror;
            }
        }
        return kindest;
    }

    int hoursUntilStop(int floor) {
        Model copy = copy();
        for (int hours = 1; hours <= 80; hours++) {
            boolean wasCalled = copy.called.contains(floor);
            copy.passHours(1);
            if (wasCalled && !copy.called.contains(floor)) {
                return hours;
            }
        }
        return -1;
    }

    int hoursUntilStuck() {
        Model copy = copy();
        for (int hours = 0; hours <= 80; hours++) {
            if (copy.stuck > 0) {
                return hours;
            }
            copy.passHours(1);
        }
        return -1;
    }

    int printedIn(int hours) {
        return copy().passHours(hours);
    }

    int subscribersIn(int hours) {
        Model copy = copy();
        copy.passHours(hours);
        return copy.subscribers();
    }

    int bestToCall(int hours) {
        int best = -1;
        int most = -1;
        for (int floor = chapters.size() - 1; floor >= 0; floor--) {
            Model copy = copy();
            copy.called.add(floor);
            copy.passHours(hours);
            if (copy.sumOfWarmths() >= most) {
                most = copy.sumOfWarmths();
                best = floor;
            }
        }
        return best;
    }

    int bestToAllow(int hours) {
        int[] cuts = new int[8];
        Model unchanged = copy();
        unchanged.passHours(hours);
        int fewest = unchanged.cuts();
        for (int topic : forbidden) {
            Model copy = copy();
            copy.turnTopic(topic);
            copy.passHours(hours);
            cuts[topic] = copy.cuts();
            fewest = Math.min(fewest, cuts[topic]);
        }
        for (int topic : forbidden) {
            if (cuts[topic] == fewest && fewest < unchanged.cuts()) {
                return topic;
            }
        }
        return -1;
    }

    private Model copy() {
        Model copy = new Model(chapters.size());
        for (int floor = 0; floor < chapters.size(); floor++) {
            for (Paragraph paragraph : chapters.get(floor)) {
                copy.addParagraph(floor, paragraph.topic, paragraph.thrill);
                Paragraph copied = copy.chapters.get(floor).get(copy.chapters.get(floor).size() - 1);
                copied.printed = paragraph.printed;
                copied.cut = paragraph.cut;
            }
        }
        for (Reader reader : readers) {
            copy.addReader(reader.taste, reader.warmth);
            copy.readers.get(copy.readers.size() - 1).subscribes = reader.subscribes;
        }
        copy.instalments.addAll(instalments);
        copy.forbidden.addAll(forbidden);
        copy.called.addAll(called);
        copy.hour = hour;
        copy.at = at;
        copy.way = way;
        copy.stuck = stuck;
        copy.wear = wear;
        copy.limit = limit;
        copy.suspense = suspense;
        return copy;
    }
}
