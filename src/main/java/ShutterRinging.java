import java.util.Arrays;

/** Change ringing of shop shutters: six shutters change their places by rules, and peals are lists of rules. */
public final class ShutterRinging {
    private static final int PLACES = 6;
    private static final int ALL_SHUTTERS = 63;
    private static final int ROWS = 720;
    private static final int CODES = 46656;
    private static final int ROUNDS = 1865;
    private static final int MOST_RULES = 8;
    private static final int MOST_PEALS = 6;
    private static final int MOST_RULES_OF_A_PEAL = 30;
    private static final int ABOUTS = 5;
    private static final int TELLINGS = 5;
    private static final int COUNTS = 5;
    private static final long DIGEST_START = 1123L;
    private static final long DIGEST_FACTOR = 31L;

    private final int[][] places = new int[MOST_RULES][PLACES];
    private int ruleCount;
    private final int[][] pealRules = new int[MOST_PEALS][MOST_RULES_OF_A_PEAL];
    private final int[] pealLengths = new int[MOST_PEALS];
    private int pealCount;
    private final Row row = new Row();
    private int changes;
    private final Ways ways = new Ways();
    private boolean waysFit;
    // Kept for the whole life of the object, so that no call has to make new ones.
    private final Row trial = new Row();
    private final SeenRows seen = new SeenRows();

    public ShutterRinging() {
    }

    // ---- rules

    public int rule(int a, int b, int c, int d, int e, int f) throws IllegalArgumentException, IllegalStateException {
        if (!isPlace(a) || !isPlace(b) || !isPlace(c) || !isPlace(d) || !isPlace(e) || !isPlace(f)) {
            throw new IllegalArgumentException("a place is 0 to 5");
        }
        int used = 1 << a | 1 << b | 1 << c | 1 << d | 1 << e | 1 << f;
        if (used != ALL_SHUTTERS) {
            throw new IllegalArgumentException("two shutters go to the same place");
        }
        if (ruleCount >= MOST_RULES) {
            throw new IllegalStateException("there are 8 rules");
        }
        int[] to = places[ruleCount];
        to[0] = a;
        to[1] = b;
        to[2] = c;
        to[3] = d;
        to[4] = e;
        to[5] = f;
        waysFit = false;
        ruleCount++;
        return ruleCount - 1;
    }

    public int goes(int rule, int place) throws IndexOutOfBoundsException {
        requireRule(rule);
        requirePlace(place);
        return places[rule][place];
    }

    public int about(int rule, int what) throws IndexOutOfBoundsException {
        requireRule(rule);
        if (what < 0 || what >= ABOUTS) {
            throw new IndexOutOfBoundsException("what is 0 to 4");
        }
        return factOfRule(rule, what);
    }

    public boolean swaps(int a, int b) throws IndexOutOfBoundsException {
        requireRule(a);
        requireRule(b);
        int[] one = places[a];
        int[] other = places[b];
        for (int place = 0; place < PLACES; place++) {
            if (other[one[place]] != one[other[place]]) {
                return false;
            }
        }
        return true;
    }

    // ---- the row

    public int ring(int rule) throws IndexOutOfBoundsException {
        requireRule(rule);
        row.change(places[rule]);
        changes++;
        return row.code();
    }

    public int undo(int rule) throws IndexOutOfBoundsException {
        requireRule(rule);
        row.changeBack(places[rule]);
        changes++;
        return row.code();
    }

    public int at(int place) throws IndexOutOfBoundsException {
        requirePlace(place);
        return row.shutters[place];
    }

    public int find(int shutter) throws IndexOutOfBoundsException {
        if (shutter < 0 || shutter >= PLACES) {
            throw new IndexOutOfBoundsException("a shutter is 0 to 5");
        }
        return row.placeOf(shutter);
    }

    public int set(int code) throws IllegalArgumentException {
        requireRowCode(code);
        int before = row.code();
        row.read(code);
        return before;
    }

    // ---- peals

    public int peal() throws IllegalStateException {
        if (pealCount >= MOST_PEALS) {
            throw new IllegalStateException("there are 6 peals");
        }
        pealCount++;
        return pealCount - 1;
    }

    public int add(int peal, int rule) throws IndexOutOfBoundsException, IllegalStateException {
        requirePeal(peal);
        requireRule(rule);
        int length = pealLengths[peal];
        if (length >= MOST_RULES_OF_A_PEAL) {
            throw new IllegalStateException("the peal has 30 rules");
        }
        pealRules[peal][length] = rule;
        pealLengths[peal] = length + 1;
        return length + 1;
    }

    public int play(int peal) throws IndexOutOfBoundsException {
        requirePeal(peal);
        ringPealOn(row, peal);
        changes += pealLengths[peal];
        return row.code();
    }

    public int told(int peal, int what) throws IndexOutOfBoundsException {
        requirePeal(peal);
        if (what < 0 || what >= TELLINGS) {
            throw new IndexOutOfBoundsException("what is 0 to 4");
        }
        return factOfPeal(peal, what);
    }

    public int count(int what) throws IndexOutOfBoundsException {
        if (what < 0 || what >= COUNTS) {
            throw new IndexOutOfBoundsException("what is 0 to 4");
        }
        return countOf(what);
    }

    // ---- ways

    public int steps(int code) throws IllegalArgumentException {
        requireRowCode(code);
        fitWays();
        return ways.fewest[rankSeenFromTheRow(code)];
    }

    public int next(int code) throws IllegalArgumentException {
        requireRowCode(code);
        fitWays();
        return ways.firstRules[rankSeenFromTheRow(code)];
    }

    public int reach() {
        fitWays();
        return ways.reached;
    }

    public int farthest() {
        fitWays();
        return ways.most;
    }

    public double mean() {
        fitWays();
        int rows = ways.reached;
        if (rows < 1) {
            return 0.0;
        }
        return (double) ways.sum / (double) rows;
    }

    public long digest() {
        long digest = DIGEST_START;
        for (int what = 0; what < COUNTS; what++) {
            digest = digest * DIGEST_FACTOR + countOf(what);
        }
        for (int rule = 0; rule < ruleCount; rule++) {
            digest = digestWithRule(digest, rule);
        }
        for (int peal = 0; peal < pealCount; peal++) {
            digest = digestWithPeal(digest, peal);
        }
        return digest;
    }

    // ---- what the public methods are made of

    private static boolean isPlace(int place) {
        return place >= 0 && place < PLACES;
    }

    private static void requirePlace(int place) {
        if (!isPlace(place)) {
            throw new IndexOutOfBoundsException("a place is 0 to 5");
        }
    }

    private void requireRule(int rule) {
        if (rule < 0 || rule >= ruleCount) {
            throw new IndexOutOfBoundsException("no such rule");
        }
    }

    private void requirePeal(int peal) {
        if (peal < 0 || peal >= pealCount) {
            throw new IndexOutOfBoundsException("no such peal");
        }
    }

    private static void requireRowCode(int code) {
        if (!isRowCode(code)) {
            throw new IllegalArgumentException("the code of no row");
        }
    }

    private static boolean isRowCode(int code) {
        if (code < 0 || code >= CODES) {
            return false;
        }
        int found = 0;
        int rest = code;
        for (int digit = 0; digit < PLACES; digit++) {
            found |= 1 << rest % PLACES;
            rest /= PLACES;
        }
        return found == ALL_SHUTTERS;
    }

    /** 1 if the number of pairs of which the greater one is ahead is odd, else 0. */
    private static int oddness(int[] numbers) {
        int pairs = 0;
        for (int ahead = 0; ahead < PLACES; ahead++) {
            for (int behind = ahead + 1; behind < PLACES; behind++) {
                if (numbers[ahead] > numbers[behind]) {
                    pairs++;
                }
            }
        }
        return pairs & 1;
    }

    private int factOfRule(int rule, int what) {
        switch (what) {
            case 0:
                return orderOfRule(places[rule]);
            case 1:
                return placesLeft(places[rule]);
            case 2:
                return oddness(places[rule]);
            case 3:
                return groups(places[rule]);
            default:
                return undoer(rule);
        }
    }

    private int orderOfRule(int[] to) {
        int times = 0;
        trial.toRounds();
        do {
            trial.change(to);
            times++;
        } while (times < ROWS && trial.code() != ROUNDS);
        return times;
    }

    private static int placesLeft(int[] to) {
        int left = 0;
        for (int place = 0; place < PLACES; place++) {
            if (to[place] == place) {
                left++;
            }
        }
        return left;
    }

    /** Each group is counted at its smallest place: the one whose shutter meets no smaller one on its way back. */
    private static int groups(int[] to) {
        int groups = 0;
        for (int place = 0; place < PLACES; place++) {
            int onTheWay = to[place];
            for (int times = 0; times < PLACES && onTheWay > place; times++) {
                onTheWay = to[onTheWay];
            }
            if (onTheWay == place) {
                groups++;
            }
        }
        return groups;
    }

    private int undoer(int rule) {
        for (int other = 0; other < ruleCount; other++) {
            if (undoes(places[other], places[rule])) {
                return other;
            }
        }
        return -1;
    }

    private static boolean undoes(int[] back, int[] to) {
        for (int place = 0; place < PLACES; place++) {
            if (back[to[place]] != place) {
                return false;
            }
        }
        return true;
    }

    private void ringPealOn(Row rung, int peal) {
        int length = pealLengths[peal];
        for (int i = 0; i < length; i++) {
            rung.change(places[pealRules[peal][i]]);
        }
    }

    private int factOfPeal(int peal, int what) {
        switch (what) {
            case 0:
                return pealLengths[peal];
            case 1:
                trial.toRounds();
                ringPealOn(trial, peal);
                return trial.code();
            case 2:
                return isTrue(peal) ? 1 : 0;
            case 3:
                return orderOfPeal(peal);
            default:
                return differentRows(peal, orderOfPeal(peal));
        }
    }

    /** Rounds stand for every first row: with other shutters at the places the same rows would be alike. */
    private boolean isTrue(int peal) {
        int length = pealLengths[peal];
        seen.clear();
        trial.toRounds();
        seen.mark(trial);
        for (int i = 0; i < length; i++) {
            trial.change(places[pealRules[peal][i]]);
            boolean isNew = seen.mark(trial);
            boolean comesHome = i == length - 1 && trial.code() == ROUNDS;
            if (!isNew && !comesHome) {
                return false;
            }
        }
        return true;
    }

    private int orderOfPeal(int peal) {
        int times = 0;
        trial.toRounds();
        do {
            ringPealOn(trial, peal);
            times++;
        } while (times < ROWS && trial.code() != ROUNDS);
        return times;
    }

    private int differentRows(int peal, int times) {
        int length = pealLengths[peal];
        seen.clear();
        trial.toRounds();
        seen.mark(trial);
        for (int time = 0; time < times; time++) {
            for (int i = 0; i < length; i++) {
                trial.change(places[pealRules[peal][i]]);
                seen.mark(trial);
            }
        }
        return seen.marked;
    }

    private int countOf(int what) {
        switch (what) {
            case 0:
                return ruleCount;
            case 1:
                return pealCount;
            case 2:
                return changes;
            case 3:
                return row.code();
            default:
                return oddness(row.shutters);
        }
    }

    private void fitWays() {
        if (!waysFit) {
            ways.explore(places, ruleCount);
            waysFit = true;
        }
    }

    /** The ways are known from rounds, so each shutter is named here by its place in the row. */
    private int rankSeenFromTheRow(int code) {
        trial.read(code);
        for (int place = 0; place < PLACES; place++) {
            trial.shutters[place] = row.placeOf(trial.shutters[place]);
        }
        return trial.rank();
    }

    private long digestWithRule(long before, int rule) {
        long digest = before;
        for (int place = 0; place < PLACES; place++) {
            digest = digest * DIGEST_FACTOR + places[rule][place];
        }
        for (int what = 0; what < ABOUTS; what++) {
            digest = digest * DIGEST_FACTOR + factOfRule(rule, what);
        }
        return digest;
    }

    private long digestWithPeal(long before, int peal) {
        long digest = before;
        for (int what = 0; what < TELLINGS; what++) {
            digest = digest * DIGEST_FACTOR + factOfPeal(peal, what);
        }
        int length = pealLengths[peal];
        for (int i = 0; i < length; i++) {
            digest = digest * DIGEST_FACTOR + pealRules[peal][i];
        }
        return digest;
    }

    /** The shutters at their places, each shutter once. */
    private static final class Row {
        final int[] shutters = new int[PLACES];
        private final int[] before = new int[PLACES];

        Row() {
            toRounds();
        }

        void toRounds() {
            for (int place = 0; place < PLACES; place++) {
                shutters[place] = place;
            }
        }

        /** The code has to be that of a row. */
        void read(int code) {
            int rest = code;
            for (int place = PLACES - 1; place >= 0; place--) {
                shutters[place] = rest % PLACES;
                rest /= PLACES;
            }
        }

        void change(int[] to) {
            System.arraycopy(shutters, 0, before, 0, PLACES);
            for (int place = 0; place < PLACES; place++) {
                shutters[to[place]] = before[place];
            }
        }

        void changeBack(int[] to) {
            System.arraycopy(shutters, 0, before, 0, PLACES);
            for (int place = 0; place < PLACES; place++) {
                shutters[place] = before[to[place]];
            }
        }

        int placeOf(int shutter) {
            for (int place = 0; place < PLACES - 1; place++) {
                if (shutters[place] == shutter) {
                    return place;
                }
            }
            return PLACES - 1;
        }

        int code() {
            int code = 0;
            for (int place = 0; place < PLACES; place++) {
                code = code * PLACES + shutters[place];
            }
            return code;
        }

        /** The number of the row among all 720 in the order of their codes: it keeps the tables of rows small. */
        int rank() {
            int rank = 0;
            for (int place = 0; place < PLACES; place++) {
                int smallerBehind = 0;
                for (int behind = place + 1; behind < PLACES; behind++) {
                    if (shutters[behind] < shutters[place]) {
                        smallerBehind++;
                    }
                }
                rank = rank * (PLACES - place) + smallerBehind;
            }
            return rank;
        }
    }

    /** The rows that were met, and how many different ones. */
    private static final class SeenRows {
        private final int[] marks = new int[ROWS];
        int marked;

        void clear() {
            Arrays.fill(marks, 0);
            marked = 0;
        }

        /** Returns whether the row is a new one. */
        boolean mark(Row row) {
            int rank = row.rank();
            if (marks[rank] != 0) {
                return false;
            }
            marks[rank] = 1;
            marked++;
            return true;
        }
    }

    /** The ways of the fewest rules from rounds to each row, by the rank of the row; -1 without a way. */
    private static final class Ways {
        final int[] fewest = new int[ROWS];
        final int[] firstRules = new int[ROWS];
        private final int[] queue = new int[ROWS];
        private final Row from = new Row();
        private final Row to = new Row();
        int reached;
        int most;
        int sum;

        /** Rows of one distance queue in the order of their first rules, so the smallest first rule arrives first. */
        void explore(int[][] rules, int ruleCount) {
            begin();
            for (int head = 0; head < ROWS && head < reached; head++) {
                from.read(queue[head]);
                int fromRank = from.rank();
                for (int rule = 0; rule < ruleCount; rule++) {
                    to.read(queue[head]);
                    to.change(rules[rule]);
                    arrive(fewest[fromRank] + 1, head == 0 ? rule : firstRules[fromRank]);
                }
            }
        }

        private void begin() {
            Arrays.fill(fewest, -1);
            Arrays.fill(firstRules, -1);
            from.toRounds();
            fewest[from.rank()] = 0;
            queue[0] = ROUNDS;
            reached = 1;
            most = 0;
            sum = 0;
        }

        private void arrive(int distance, int firstRule) {
            int rank = to.rank();
            if (fewest[rank] >= 0 || reached >= ROWS) {
                return;
            }
            fewest[rank] = distance;
            firstRules[rank] = firstRule;
            queue[reached] = to.code();
            reached++;
            most = distance;
            sum += distance;
        }
    }
}
