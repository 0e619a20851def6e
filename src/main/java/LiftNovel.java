/** A novel that a lift tells in instalments. */
public final class LiftNovel {
    private static final int NONE = -1;
    private static final int LEAST_FLOORS = 2;
    private static final int MOST_FLOORS = 12;
    private static final int FLOORS_AT_FIRST = 6;
    private static final int MOST_PARAGRAPHS = 9;
    private static final int MOST_INSTALMENTS = MOST_FLOORS * MOST_PARAGRAPHS;
    private static final int TOPICS = 8;
    private static final int GREATEST_THRILL = 9;
    private static final int GREATEST_LIMIT = 99;
    private static final int LIMIT_AT_FIRST = 20;
    private static final int MOST_READERS = 8;
    private static final int WARMEST_AT_FIRST = 20;
    private static final int WARMEST = 99;
    private static final int MOST_MIRRORS = 4;
    private static final int BEST_GRADE = 10;
    private static final int MOST_HOURS_PASSED = 60;
    private static final int MOST_HOURS_FORESEEN = 40;
    private static final int MOST_HOURS_WAITED = 80;
    private static final long DIGEST_START = 2293;

    private final House house = new House();
    private final Course now = new Course(house);
    /** Made once and overwritten for each question about what would be, so that asking makes no objects. */
    private final Course trial = new Course(house);
    private final Instalments told = new Instalments();
    private final Mirrors mirrored = new Mirrors();

    public LiftNovel() {
    }

    // ---- the house

    public int begin(int floors) throws IllegalArgumentException {
        if (floors < LEAST_FLOORS || floors > MOST_FLOORS) {
            throw new IllegalArgumentException("floors is not 2 to 12");
        }
        house.clear(floors);
        now.startOver();
        told.count = 0;
        return now.countSubscribers();
    }

    public int addParagraph(int floor, int topic, int thrill)
            throws IndexOutOfBoundsException, IllegalArgumentException, IllegalStateException {
        needFloor(floor);
        if (!isTopic(topic) || thrill < 0 || thrill > GREATEST_THRILL) {
            throw new IllegalArgumentException("topic is not 0 to 7, or thrill is not 0 to 9");
        }
        if (house.lengths[floor] >= MOST_PARAGRAPHS) {
            throw new IllegalStateException("the chapter has 9 paragraphs");
        }
        return house.append(floor, topic, thrill);
    }

    public boolean turnTopic(int topic) throws IndexOutOfBoundsException {
        needTopic(topic);
        now.forbidden[topic] = !now.forbidden[topic];
        return now.forbidden[topic];
    }

    public int setLimit(int limit) throws IllegalArgumentException {
        if (limit < 1 || limit > GREATEST_LIMIT) {
            throw new IllegalArgumentException("limit is not 1 to 99");
        }
        int before = house.limit;
        house.limit = limit;
        return before;
    }

    public int addReader(int taste, int warm) throws IllegalArgumentException, IllegalStateException {
        if (!isTopic(taste) || warm < 1 || warm > WARMEST_AT_FIRST) {
            throw new IllegalArgumentException("taste is not 0 to 7, or warm is not 1 to 20");
        }
        if (house.readers >= MOST_READERS) {
            throw new IllegalStateException("there are 8 readers");
        }
        int reader = house.readers;
        house.tastes[reader] = taste;
        house.readers = reader + 1;
        now.warmths[reader] = warm;
        now.subscribed[reader] = true;
        return reader;
    }

    public int addMirror(int likes, int dislikes) throws IllegalArgumentException, IllegalStateException {
        if (!isTopic(likes) || !isTopic(dislikes) || likes == dislikes) {
            throw new IllegalArgumentException("likes or dislikes is not 0 to 7, or both are the same");
        }
        if (mirrored.count >= MOST_MIRRORS) {
            throw new IllegalStateException("there are 4 mirrors");
        }
        return mirrored.append(likes, dislikes);
    }

    // ---- the lift

    public boolean call(int floor) throws IndexOutOfBoundsException {
        needFloor(floor);
        boolean isNew = !now.called[floor];
        now.called[floor] = true;
        return isNew;
    }

    public int repair() {
        int before = now.stuck;
        now.stuck = 0;
        now.wear = 0;
        return before;
    }

    public int passHours(int hours) throws IllegalArgumentException {
        if (hours < 1 || hours > MOST_HOURS_PASSED) {
            throw new IllegalArgumentException("hours is not 1 to 60");
        }
        int before = told.count;
        for (int passed = 0; passed < hours; passed++) {
            int hour = now.hour;
            int thrill = now.passHour();
            if (thrill != NONE) {
                told.append(now.at, now.next[now.at] - 1, thrill, hour);
            }
        }
        return told.count - before;
    }

    public int floors() {
        return house.floors;
    }

    public int hours() {
        return now.hour;
    }

    public int liftAt() {
        return now.at;
    }

    public int goes() {
        return now.way;
    }

    public boolean isCalled(int floor) throws IndexOutOfBoundsException {
        needFloor(floor);
        return now.called[floor];
    }

    public int calls() {
        return now.countCalled();
    }

    public int stuckFor() {
        return now.stuck;
    }

    public int wear() {
        return now.wear;
    }

    public int limit() {
        return house.limit;
    }

    public int suspense() {
        return now.suspense;
    }

    // ---- chapters

    public int paragraphs(int floor) throws IndexOutOfBoundsException {
        needFloor(floor);
        return house.lengths[floor];
    }

    public int nextParagraph(int floor) throws IndexOutOfBoundsException {
        needFloor(floor);
        return now.next[floor] < house.lengths[floor] ? now.next[floor] : NONE;
    }

    public int topicOf(int floor, int paragraph) throws IndexOutOfBoundsException {
        needParagraph(floor, paragraph);
        return house.topicAt(floor, paragraph);
    }

    public int thrillOf(int floor, int paragraph) throws IndexOutOfBoundsException {
        needParagraph(floor, paragraph);
        return house.thrillAt(floor, paragraph);
    }

    public int cutOn(int floor) throws IndexOutOfBoundsException {
        needFloor(floor);
        return now.cut[floor];
    }

    public boolean isForbidden(int topic) throws IndexOutOfBoundsException {
        needTopic(topic);
        return now.forbidden[topic];
    }

    public int cuts() {
        return now.countCut();
    }

    public int toCome(int topic) throws IndexOutOfBoundsException {
        needTopic(topic);
        return now.countToCome(topic);
    }

    // ---- instalments

    public int instalments() {
        return told.count;
    }

    public int floorIn(int instalment) throws IndexOutOfBoundsException {
        needInstalment(instalment);
        return told.floors[instalment];
    }

    public int paragraphIn(int instalment) throws IndexOutOfBoundsException {
        needInstalment(instalment);
        return told.paragraphs[instalment];
    }

    public int thrillIn(int instalment) throws IndexOutOfBoundsException {
        needInstalment(instalment);
        return told.thrills[instalment];
    }

    public int hourIn(int instalment) throws IndexOutOfBoundsException {
        needInstalment(instalment);
        return told.hours[instalment];
    }

    public int mostThrilling() {
        return told.findMostThrilling();
    }

    public int longestWait() {
        return told.findLongestWait();
    }

    public int climbs() {
        return told.countClimbs();
    }

    // ---- readers and mirrors

    public int readers() {
        return house.readers;
    }

    public int subscribers() {
        return now.countSubscribers();
    }

    public int tasteOf(int reader) throws IndexOutOfBoundsException {
        needReader(reader);
        return house.tastes[reader];
    }

    public int warmthOf(int reader) throws IndexOutOfBoundsException {
        needReader(reader);
        return now.subscribed[reader] ? now.warmths[reader] : 0;
    }

    public boolean isSubscriber(int reader) throws IndexOutOfBoundsException {
        needReader(reader);
        return now.subscribed[reader];
    }

    public int warmest() {
        return now.findWarmest();
    }

    public int mirrors() {
        return mirrored.count;
    }

    public int grade(int mirror, int instalment) throws IndexOutOfBoundsException {
        needMirror(mirror);
        needInstalment(instalment);
        return judge(mirror, instalment);
    }

    public int gradesBy(int mirror) throws IndexOutOfBoundsException {
        needMirror(mirror);
        return sumOfGrades(mirror);
    }

    public int favouriteOf(int mirror) throws IndexOutOfBoundsException {
        needMirror(mirror);
        int favourite = NONE;
        int best = NONE;
        for (int instalment = 0; instalment < told.count; instalment++) {
            int grade = judge(mirror, instalment);
            if (grade > best) {
                best = grade;
                favourite = instalment;
            }
        }
        return favourite;
    }

    public int kindest() {
        int kindest = NONE;
        int most = NONE;
        for (int mirror = 0; mirror < mirrored.count; mirror++) {
            int sum = sumOfGrades(mirror);
            if (sum > most) {
                most = sum;
                kindest = mirror;
            }
        }
        return kindest;
    }

    // ---- what would be

    public int hoursUntilStop(int floor) throws IndexOutOfBoundsException {
        needFloor(floor);
        // No floor gets called while hours go by, so the lift never stops on one that is not called now.
        if (!now.called[floor]) {
            return NONE;
        }
        trial.copy(now);
        for (int hours = 1; hours <= MOST_HOURS_WAITED; hours++) {
            trial.passHour();
            if (!trial.called[floor]) {
                return hours;
            }
        }
        return NONE;
    }

    public int hoursUntilStuck() {
        trial.copy(now);
        for (int hours = 0; hours < MOST_HOURS_WAITED; hours++) {
            if (trial.stuck > 0) {
                return hours;
            }
            trial.passHour();
        }
        return trial.stuck > 0 ? MOST_HOURS_WAITED : NONE;
    }

    public int printedIn(int hours) throws IllegalArgumentException {
        needForeseeable(hours);
        trial.copy(now);
        return trial.passAndCountPrinted(hours);
    }

    public int subscribersIn(int hours) throws IllegalArgumentException {
        needForeseeable(hours);
        trial.copy(now);
        trial.passAndCountPrinted(hours);
        return trial.countSubscribers();
    }

    public int bestToCall(int hours) throws IllegalArgumentException {
        needForeseeable(hours);
        int best = NONE;
        int warmest = NONE;
        for (int floor = 0; floor < house.floors; floor++) {
            trial.copy(now);
            trial.called[floor] = true;
            trial.passAndCountPrinted(hours);
            int warmth = trial.sumOfWarmths();
            if (warmth > warmest) {
                warmest = warmth;
                best = floor;
            }
        }
        return best;
    }

    public int bestToAllow(int hours) throws IllegalArgumentException {
        needForeseeable(hours);
        trial.copy(now);
        trial.passAndCountPrinted(hours);
        int best = NONE;
        int fewest = trial.countCut();
        for (int topic = 0; topic < TOPICS; topic++) {
            if (!now.forbidden[topic]) {
                continue;
            }
            trial.copy(now);
            trial.forbidden[topic] = false;
            trial.passAndCountPrinted(hours);
            int cut = trial.countCut();
            if (cut < fewest) {
                fewest = cut;
                best = topic;
            }
        }
        return best;
    }

    public double meanWarmth() {
        int count = now.countSubscribers();
        return count == 0 ? 0.0 : (double) now.sumOfWarmths() / (double) count;
    }

    public long digest() {
        long d = DIGEST_START;
        d = foldLift(d);
        d = foldForesight(d);
        d = foldFloors(d);
        d = foldTopics(d);
        d = foldInstalments(d);
        d = foldReaders(d);
        return foldMirrors(d);
    }

    private long foldLift(long start) {
        long d = start;
        d = fold(d, floors());
        d = fold(d, hours());
        d = fold(d, liftAt());
        d = fold(d, goes());
        d = fold(d, calls());
        d = fold(d, stuckFor());
        d = fold(d, wear());
        d = fold(d, limit());
        d = fold(d, suspense());
        d = fold(d, cuts());
        d = fold(d, instalments());
        d = fold(d, mostThrilling());
        d = fold(d, longestWait());
        d = fold(d, climbs());
        d = fold(d, subscribers());
        d = fold(d, warmest());
        return fold(d, kindest());
    }

    private long foldForesight(long start) {
        long d = start;
        d = fold(d, hoursUntilStuck());
        d = fold(d, printedIn(20));
        d = fold(d, subscribersIn(20));
        d = fold(d, bestToCall(10));
        return fold(d, bestToAllow(10));
    }

    private long foldFloors(long start) {
        long d = start;
        for (int floor = 0; floor < house.floors; floor++) {
            d = fold(d, bit(isCalled(floor)));
            d = fold(d, paragraphs(floor));
            d = fold(d, nextParagraph(floor));
            d = fold(d, cutOn(floor));
            d = fold(d, hoursUntilStop(floor));
        }
        return d;
    }

    private long foldTopics(long start) {
        long d = start;
        for (int topic = 0; topic < TOPICS; topic++) {
            d = fold(d, bit(isForbidden(topic)));
            d = fold(d, toCome(topic));
        }
        return d;
    }

    private long foldInstalments(long start) {
        long d = start;
        for (int instalment = 0; instalment < told.count; instalment++) {
            d = fold(d, floorIn(instalment));
            d = fold(d, paragraphIn(instalment));
            d = fold(d, thrillIn(instalment));
            d = fold(d, hourIn(instalment));
        }
        return d;
    }

    private long foldReaders(long start) {
        long d = start;
        for (int reader = 0; reader < house.readers; reader++) {
            d = fold(d, warmthOf(reader));
            d = fold(d, bit(isSubscriber(reader)));
        }
        return d;
    }

    private long foldMirrors(long start) {
        long d = start;
        for (int mirror = 0; mirror < mirrored.count; mirror++) {
            d = fold(d, gradesBy(mirror));
            d = fold(d, favouriteOf(mirror));
        }
        return d;
    }

    private static long fold(long d, int x) {
        return d * 31 + x;
    }

    private static int bit(boolean isSo) {
        return isSo ? 1 : 0;
    }

    private int judge(int mirror, int instalment) {
        int topic = house.topicAt(told.floors[instalment], told.paragraphs[instalment]);
        return mirrored.judge(mirror, topic, told.thrills[instalment]);
    }

    private int sumOfGrades(int mirror) {
        int sum = 0;
        for (int instalment = 0; instalment < told.count; instalment++) {
            sum += judge(mirror, instalment);
        }
        return sum;
    }

    private static boolean isTopic(int topic) {
        return topic >= 0 && topic < TOPICS;
    }

    private void needFloor(int floor) {
        if (floor < 0 || floor >= house.floors) {
            throw new IndexOutOfBoundsException("there is no such floor");
        }
    }

    private void needParagraph(int floor, int paragraph) {
        needFloor(floor);
        if (paragraph < 0 || paragraph >= house.lengths[floor]) {
            throw new IndexOutOfBoundsException("there is no such paragraph");
        }
    }

    private static void needTopic(int topic) {
        if (!isTopic(topic)) {
            throw new IndexOutOfBoundsException("topic is not 0 to 7");
        }
    }

    private void needInstalment(int instalment) {
        if (instalment < 0 || instalment >= told.count) {
            throw new IndexOutOfBoundsException("there is no such instalment");
        }
    }

    private void needReader(int reader) {
        if (reader < 0 || reader >= house.readers) {
            throw new IndexOutOfBoundsException("there is no such reader");
        }
    }

    private void needMirror(int mirror) {
        if (mirror < 0 || mirror >= mirrored.count) {
            throw new IndexOutOfBoundsException("there is no such mirror");
        }
    }

    private static void needForeseeable(int hours) {
        if (hours < 1 || hours > MOST_HOURS_FORESEEN) {
            throw new IllegalArgumentException("hours is not 1 to 40");
        }
    }

    /** What stays as it is while hours go by: chapters, the limit, and what readers like. */
    private static final class House {
        int floors = FLOORS_AT_FIRST;
        int limit = LIMIT_AT_FIRST;
        int readers = 0;
        final int[] lengths = new int[MOST_FLOORS];
        final int[] topics = new int[MOST_INSTALMENTS];
        final int[] thrills = new int[MOST_INSTALMENTS];
        final int[] tastes = new int[MOST_READERS];

        void clear(int newFloors) {
            floors = newFloors;
            for (int floor = 0; floor < MOST_FLOORS; floor++) {
                lengths[floor] = 0;
            }
        }

        int append(int floor, int topic, int thrill) {
            int paragraph = lengths[floor];
            topics[floor * MOST_PARAGRAPHS + paragraph] = topic;
            thrills[floor * MOST_PARAGRAPHS + paragraph] = thrill;
            lengths[floor] = paragraph + 1;
            return paragraph;
        }

        int topicAt(int floor, int paragraph) {
            return topics[floor * MOST_PARAGRAPHS + paragraph];
        }

        int thrillAt(int floor, int paragraph) {
            return thrills[floor * MOST_PARAGRAPHS + paragraph];
        }
    }

    /** What changes while hours go by, and what the censor forbids: a trial may forbid less. */
    private static final class Course {
        final House house;
        int hour = 0;
        int at = 0;
        int way = 0;
        int stuck = 0;
        int wear = 0;
        int suspense = 0;
        /** The thrill of the paragraph of the latest instalment, without the suspense. */
        int lastThrill = 0;
        final boolean[] called = new boolean[MOST_FLOORS];
        final int[] next = new int[MOST_FLOORS];
        final int[] cut = new int[MOST_FLOORS];
        final boolean[] forbidden = new boolean[TOPICS];
        final int[] warmths = new int[MOST_READERS];
        final boolean[] subscribed = new boolean[MOST_READERS];

        Course(House house) {
            this.house = house;
        }

        void startOver() {
            at = 0;
            way = 0;
            stuck = 0;
            wear = 0;
            suspense = 0;
            lastThrill = 0;
            for (int floor = 0; floor < MOST_FLOORS; floor++) {
                called[floor] = false;
                next[floor] = 0;
                cut[floor] = 0;
            }
        }

        void copy(Course other) {
            hour = other.hour;
            at = other.at;
            way = other.way;
            stuck = other.stuck;
            wear = other.wear;
            suspense = other.suspense;
            lastThrill = other.lastThrill;
            for (int floor = 0; floor < MOST_FLOORS; floor++) {
                called[floor] = other.called[floor];
                next[floor] = other.next[floor];
                cut[floor] = other.cut[floor];
            }
            for (int topic = 0; topic < TOPICS; topic++) {
                forbidden[topic] = other.forbidden[topic];
            }
            for (int reader = 0; reader < MOST_READERS; reader++) {
                warmths[reader] = other.warmths[reader];
                subscribed[reader] = other.subscribed[reader];
            }
        }

        /** Answers the thrill of the instalment printed in the hour, with the suspense; NONE without one. */
        int passHour() {
            int thrill = NONE;
            if (stuck > 0) {
                waitStuck();
            } else if (countCalled() > 0) {
                ride();
                thrill = stopIfCalled();
            }
            if (thrill == NONE) {
                coolReaders();
            }
            if (countCalled() == 0) {
                way = 0;
            }
            getStuckIfWorn();
            hour++;
            return thrill;
        }

        int passAndCountPrinted(int hours) {
            int printed = 0;
            for (int passed = 0; passed < hours; passed++) {
                if (passHour() != NONE) {
                    printed++;
                }
            }
            return printed;
        }

        void waitStuck() {
            stuck--;
            suspense += 1 + lastThrill;
        }

        void ride() {
            if (hasCall(at)) {
                return;
            }
            boolean goesOn = (way > 0 && hasCallAbove()) || (way < 0 && hasCallBelow());
            if (!goesOn) {
                way = wayToNearestCall();
            }
            at += way;
            wear++;
        }

        int wayToNearestCall() {
            for (int distance = 1; distance < MOST_FLOORS; distance++) {
                if (hasCall(at + distance)) {
                    return 1;
                }
                if (hasCall(at - distance)) {
                    return -1;
                }
            }
            return 0;
        }

        boolean hasCall(int floor) {
            return floor >= 0 && floor < MOST_FLOORS && called[floor];
        }

        boolean hasCallAbove() {
            for (int floor = at + 1; floor < MOST_FLOORS; floor++) {
                if (called[floor]) {
                    return true;
                }
            }
            return false;
        }

        boolean hasCallBelow() {
            for (int floor = 0; floor < at; floor++) {
                if (called[floor]) {
                    return true;
                }
            }
            return false;
        }

        int stopIfCalled() {
            if (!hasCall(at)) {
                return NONE;
            }
            called[at] = false;
            int paragraph = next[at];
            if (paragraph >= house.lengths[at]) {
                return NONE;
            }
            next[at] = paragraph + 1;
            int topic = house.topicAt(at, paragraph);
            if (forbidden[topic]) {
                cut[at]++;
                return NONE;
            }
            return print(topic, house.thrillAt(at, paragraph));
        }

        int print(int topic, int paragraphThrill) {
            int thrill = paragraphThrill + suspense;
            suspense = 0;
            lastThrill = paragraphThrill;
            for (int reader = 0; reader < house.readers; reader++) {
                if (subscribed[reader]) {
                    int warmer = house.tastes[reader] == topic ? thrill : thrill / 3;
                    warmths[reader] = Math.min(WARMEST, warmths[reader] + warmer);
                }
            }
            return thrill;
        }

        void coolReaders() {
            for (int reader = 0; reader < house.readers; reader++) {
                if (warmths[reader] > 0) {
                    warmths[reader]--;
                } else {
                    subscribed[reader] = false;
                }
            }
        }

        void getStuckIfWorn() {
            if (stuck == 0 && wear >= house.limit) {
                stuck = house.limit / 4 + 1;
                wear = 0;
            }
        }

        int countCalled() {
            int count = 0;
            for (int floor = 0; floor < MOST_FLOORS; floor++) {
                if (called[floor]) {
                    count++;
                }
            }
            return count;
        }

        int countCut() {
            int count = 0;
            for (int floor = 0; floor < MOST_FLOORS; floor++) {
                count += cut[floor];
            }
            return count;
        }

        int countToCome(int topic) {
            int count = 0;
            for (int floor = 0; floor < house.floors; floor++) {
                for (int paragraph = next[floor]; paragraph < house.lengths[floor]; paragraph++) {
                    if (house.topicAt(floor, paragraph) == topic) {
                        count++;
                    }
                }
            }
            return count;
        }

        int countSubscribers() {
            int count = 0;
            for (int reader = 0; reader < house.readers; reader++) {
                if (subscribed[reader]) {
                    count++;
                }
            }
            return count;
        }

        int sumOfWarmths() {
            int sum = 0;
            for (int reader = 0; reader < house.readers; reader++) {
                if (subscribed[reader]) {
                    sum += warmths[reader];
                }
            }
            return sum;
        }

        int findWarmest() {
            int warmest = NONE;
            for (int reader = 0; reader < house.readers; reader++) {
                if (subscribed[reader] && (warmest == NONE || warmths[reader] > warmths[warmest])) {
                    warmest = reader;
                }
            }
            return warmest;
        }
    }

    /** The instalments of the novel, in the order in which they were printed. */
    private static final class Instalments {
        int count = 0;
        final int[] floors = new int[MOST_INSTALMENTS];
        final int[] paragraphs = new int[MOST_INSTALMENTS];
        final int[] thrills = new int[MOST_INSTALMENTS];
        final int[] hours = new int[MOST_INSTALMENTS];

        void append(int floor, int paragraph, int thrill, int hour) {
            if (count >= MOST_INSTALMENTS) {
                return;
            }
            floors[count] = floor;
            paragraphs[count] = paragraph;
            thrills[count] = thrill;
            hours[count] = hour;
            count++;
        }

        int findMostThrilling() {
            int found = NONE;
            for (int instalment = 0; instalment < count; instalment++) {
                if (found == NONE || thrills[instalment] > thrills[found]) {
                    found = instalment;
                }
            }
            return found;
        }

        int findLongestWait() {
            int longest = 0;
            for (int instalment = 1; instalment < count; instalment++) {
                longest = Math.max(longest, hours[instalment] - hours[instalment - 1]);
            }
            return longest;
        }

        int countClimbs() {
            int climbs = 0;
            for (int instalment = 1; instalment < count; instalment++) {
                if (floors[instalment] > floors[instalment - 1]) {
                    climbs++;
                }
            }
            return climbs;
        }
    }

    private static final class Mirrors {
        int count = 0;
        final int[] likes = new int[MOST_MIRRORS];
        final int[] dislikes = new int[MOST_MIRRORS];

        int append(int liked, int disliked) {
            int mirror = count;
            likes[mirror] = liked;
            dislikes[mirror] = disliked;
            count = mirror + 1;
            return mirror;
        }

        int judge(int mirror, int topic, int thrill) {
            int grade = 4 + thrill / 3;
            if (likes[mirror] == topic) {
                grade += 2;
            }
            if (dislikes[mirror] == topic) {
                grade -= 3;
            }
            return Math.max(0, Math.min(BEST_GRADE, grade));
        }
    }
}
