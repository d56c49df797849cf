/**
 * Lays two rows of letters beside one another as well as they can lie.
 *
 * <p>Everything is allocated when the object is made: no call makes an object of its own.
 */
public final class RowAligner {
    public static final int NONE = -1;
    public static final int PAIR = 0, ONE = 1, OTHER = 2;
    public static final int NO_LAYING = -1000000;

    private static final int KINDS = 3;
    private static final int ALPHABET = 26;
    private static final int FIRST_CHARACTER = 97;
    private static final int MOST_LETTERS = 96;
    private static final int PLACES = MOST_LETTERS + 1;
    private static final int MOST_TYPED = 8;
    private static final int MOST_DRAWN = 200;
    private static final int GREATEST_PRICE = 512;

    private static final int FREE_ONE_AT_START = 1;
    private static final int FREE_OTHER_AT_START = 2;
    private static final int FREE_ONE_AT_END = 4;
    private static final int FREE_OTHER_AT_END = 8;
    private static final int ALL_ENDS_FREE = 15;

    /** Far below every worth there can be, so that nothing added to it on the way makes it look like one. */
    private static final int NO_WAY = -100000000;

    private static final long LOWEST_63_BITS = 0x7fffffffffffffffL;

    private final Ground ground;
    private final Search search;
    private final Laying laying;
    private final WayCounter wayCounter;
    private final CrossingFinder crossingFinder;
    private final Draft draft;

    private boolean laid;
    private boolean waysAreCounted;
    private boolean crossingsAreFound;
    private long countedWays;

    public RowAligner() {
        ground = new Ground();
        search = new Search(ground);
        laying = new Laying();
        wayCounter = new WayCounter();
        crossingFinder = new CrossingFinder();
        draft = new Draft();
    }

    public int type(int row, long w, int n)
            throws IndexOutOfBoundsException, IllegalArgumentException, IllegalStateException {
        Row typed = existingRow(row);
        if (n < 1 || n > MOST_TYPED || !areCharacters(w, n)) {
            throw new IllegalArgumentException();
        }
        if (typed.length + n > MOST_LETTERS) {
            throw new IllegalStateException();
        }
        for (int k = 0; k < n; k++) {
            typed.append(characterAt(w, k) - FIRST_CHARACTER);
        }
        laid = false;
        return typed.length;
    }

    public void cut(int row, int n) throws IndexOutOfBoundsException, IllegalArgumentException {
        Row shortened = existingRow(row);
        if (n < 0 || n > shortened.length) {
            throw new IllegalArgumentException();
        }
        shortened.length = n;
        laid = false;
    }

    public void turn(int row) throws IndexOutOfBoundsException {
        existingRow(row).reverse();
        laid = false;
    }

    public int letter(int row, int i) throws IndexOutOfBoundsException {
        Row asked = existingRow(row);
        if (i < 0 || i >= asked.length) {
            throw new IndexOutOfBoundsException();
        }
        return asked.letters[i];
    }

    public int size(int row) throws IndexOutOfBoundsException {
        return existingRow(row).length;
    }

    public void score(int x, int y, int v) throws IndexOutOfBoundsException, IllegalArgumentException {
        if (x < 0 || x >= ALPHABET || y < 0 || y >= ALPHABET) {
            throw new IndexOutOfBoundsException();
        }
        refusePriceBelow(-GREATEST_PRICE, v);
        ground.prices.setPair(x, y, v);
        laid = false;
    }

    public void scores(int same, int others) throws IllegalArgumentException {
        refusePriceBelow(-GREATEST_PRICE, same);
        refusePriceBelow(-GREATEST_PRICE, others);
        ground.prices.setAllPairs(same, others);
        laid = false;
    }

    public void costs(int open, int more) throws IllegalArgumentException {
        refusePriceBelow(0, open);
        refusePriceBelow(0, more);
        ground.prices.open = open;
        ground.prices.more = more;
        laid = false;
    }

    public int whole(int free) throws IllegalArgumentException {
        refuseOtherEnds(free);
        search.searchWhole(free);
        return keepBest();
    }

    public int parts() {
        search.searchParts();
        return keepBest();
    }

    public int steps() throws IllegalStateException {
        refuseUnlaid();
        return laying.length;
    }

    public int step(int i) throws IllegalStateException, IndexOutOfBoundsException {
        refuseUnlaid();
        if (i < 0 || i >= laying.length) {
            throw new IndexOutOfBoundsException();
        }
        return laying.steps[i];
    }

    public int place(int row, boolean ends) throws IndexOutOfBoundsException, IllegalStateException {
        refuseOtherRows(row);
        refuseUnlaid();
        if (row == 0) {
            return ends ? laying.endInA : laying.startInA;
        }
        return ends ? laying.endInB : laying.startInB;
    }

    public int count(int what) throws IllegalArgumentException, IllegalStateException {
        if (what < 0 || what > 3) {
            throw new IllegalArgumentException();
        }
        refuseUnlaid();
        switch (what) {
            case 0:
                return laying.countRuns();
            case 1:
                return laying.countSamePairs(ground);
            case 2:
                return laying.countGaps();
            default:
                return laying.countGapLetters();
        }
    }

    public int run(int i, int what)
            throws IllegalArgumentException, IllegalStateException, IndexOutOfBoundsException {
        if (what < 0 || what > 1) {
            throw new IllegalArgumentException();
        }
        refuseUnlaid();
        int start = laying.startOfRun(i);
        if (start == NONE) {
            throw new IndexOutOfBoundsException();
        }
        return what == 0 ? laying.steps[start] : laying.lengthOfRunAt(start);
    }

    public long ways() throws IllegalStateException {
        refuseUnlaid();
        if (!waysAreCounted) {
            countedWays = wayCounter.countBest(search);
            waysAreCounted = true;
        }
        return countedWays;
    }

    public int crossing(int i) throws IllegalStateException, IndexOutOfBoundsException {
        refuseUnlaid();
        if (i < 0 || i > ground.a.length) {
            throw new IndexOutOfBoundsException();
        }
        if (search.ofParts) {
            return NONE;
        }
        if (!crossingsAreFound) {
            crossingFinder.findAll(search);
            crossingsAreFound = true;
        }
        return crossingFinder.least[i];
    }

    public int draw(int step) throws IllegalArgumentException, IllegalStateException {
        if (step < 0 || step >= KINDS) {
            throw new IllegalArgumentException();
        }
        if (draft.length >= MOST_DRAWN) {
            throw new IllegalStateException();
        }
        draft.append(step);
        return draft.length;
    }

    public int wipe() {
        int wiped = draft.length;
        draft.length = 0;
        return wiped;
    }

    public int worth(int free) throws IllegalArgumentException {
        refuseOtherEnds(free);
        return draft.isWholeLaying(ground) ? draft.sumUp(ground, free) : NO_LAYING;
    }

    /** Ways and crossings are left until they are asked for: most layings are never asked for them. */
    private int keepBest() {
        laying.follow(search);
        laid = true;
        waysAreCounted = false;
        crossingsAreFound = false;
        return search.best;
    }

    private Row existingRow(int row) {
        refuseOtherRows(row);
        return row == 0 ? ground.a : ground.b;
    }

    private static void refuseOtherRows(int row) {
        if (row != 0 && row != 1) {
            throw new IndexOutOfBoundsException();
        }
    }

    private static void refusePriceBelow(int least, int v) {
        if (v < least || v > GREATEST_PRICE) {
            throw new IllegalArgumentException();
        }
    }

    private static void refuseOtherEnds(int free) {
        if (free < 0 || free > ALL_ENDS_FREE) {
            throw new IllegalArgumentException();
        }
    }

    private void refuseUnlaid() {
        if (!laid) {
            throw new IllegalStateException();
        }
    }

    private static int characterAt(long w, int k) {
        return (int) (w >>> (8 * k)) & 255;
    }

    private static boolean areCharacters(long w, int n) {
        for (int k = 0; k < n; k++) {
            int letter = characterAt(w, k) - FIRST_CHARACTER;
            if (letter < 0 || letter >= ALPHABET) {
                return false;
            }
        }
        return true;
    }

    private static int lettersOfA(int step) {
        return step == OTHER ? 0 : 1;
    }

    private static int lettersOfB(int step) {
        return step == ONE ? 0 : 1;
    }

    /** Row by row of places in A, so that a table of only two such rows can be used with i & 1 for i. */
    private static int cell(int before, int i, int j) {
        return (i * KINDS + before) * PLACES + j;
    }

    private static final class Row {
        final int[] letters = new int[MOST_LETTERS];
        int length;

        void append(int letter) {
            letters[length] = letter;
            length++;
        }

        void reverse() {
            for (int low = 0; low < length / 2; low++) {
                int high = length - 1 - low;
                int kept = letters[low];
                letters[low] = letters[high];
                letters[high] = kept;
            }
        }
    }

    private static final class Prices {
        private final int[] pairs = new int[ALPHABET * ALPHABET];
        int open = 3;
        int more = 1;

        Prices() {
            setAllPairs(1, -1);
        }

        void setAllPairs(int same, int others) {
            for (int x = 0; x < ALPHABET; x++) {
                for (int y = 0; y < ALPHABET; y++) {
                    setPair(x, y, x == y ? same : others);
                }
            }
        }

        void setPair(int x, int y, int v) {
            pairs[x * ALPHABET + y] = v;
        }

        int ofPair(int x, int y) {
            return pairs[x * ALPHABET + y];
        }
    }

    /** Both rows and what steps over them are worth. */
    private static final class Ground {
        final Row a = new Row();
        final Row b = new Row();
        final Prices prices = new Prices();

        int pairScore(int i, int j) {
            return prices.ofPair(a.letters[i], b.letters[j]);
        }

        /**
         * Whether a step ONE costs nothing when j letters of B are taken. Without a letter of B before it, it can
         * only stand in the gap at which the laying begins; with none left, only in that at which it ends.
         */
        boolean isOneFree(int j, int free) {
            return j == 0 && (free & FREE_ONE_AT_START) != 0
                    || j == b.length && (free & FREE_ONE_AT_END) != 0;
        }

        /** The same for a step OTHER when i letters of A are taken. */
        boolean isOtherFree(int i, int free) {
            return i == 0 && (free & FREE_OTHER_AT_START) != 0
                    || i == a.length && (free & FREE_OTHER_AT_END) != 0;
        }
    }

    /**
     * What each way onward from one place is worth, all the rest of the laying with it. The step before decides only
     * whether a gap is opened there, so one look serves all three kinds of it.
     */
    private static final class Outlook {
        int end;
        int pair;
        int one;
        int other;
        int openOne;
        int openOther;

        int worthThrough(int before, int step) {
            if (step == PAIR) {
                return pair;
            }
            if (step == ONE) {
                return before == ONE ? one : one - openOne;
            }
            return before == OTHER ? other : other - openOther;
        }

        int greatestWorth(int before) {
            int greatest = end > pair ? end : pair;
            int throughOne = before == ONE ? one : one - openOne;
            int throughOther = before == OTHER ? other : other - openOther;
            greatest = throughOne > greatest ? throughOne : greatest;
            return throughOther > greatest ? throughOther : greatest;
        }

        /** NONE where the laying ends, which comes before every step. */
        int firstBestStep(int before) {
            int greatest = greatestWorth(before);
            if (end == greatest) {
                return NONE;
            }
            for (int step = PAIR; step < OTHER; step++) {
                if (worthThrough(before, step) == greatest) {
                    return step;
                }
            }
            return OTHER;
        }
    }

    /**
     * The greatest worth of the rest of a laying, for every place and step before it. It is worked out from the ends
     * of the rows, so that the first of the best layings can be read off forwards, step by step.
     */
    private static final class Search {
        final Ground ground;
        final Outlook outlook = new Outlook();
        private final int[] rest = new int[PLACES * KINDS * PLACES];
        private int free;
        boolean ofParts;
        int best;
        int startInA;
        int startInB;

        Search(Ground ground) {
            this.ground = ground;
        }

        void searchWhole(int freeEnds) {
            free = freeEnds;
            ofParts = false;
            fill();
            startAt(0, 0);
        }

        void searchParts() {
            free = 0;
            ofParts = true;
            fill();
            startAtFirstBest();
        }

        private void fill() {
            for (int i = ground.a.length; i >= 0; i--) {
                for (int j = ground.b.length; j >= 0; j--) {
                    lookFrom(i, j);
                    rest[cell(PAIR, i, j)] = outlook.greatestWorth(PAIR);
                    rest[cell(ONE, i, j)] = outlook.greatestWorth(ONE);
                    rest[cell(OTHER, i, j)] = outlook.greatestWorth(OTHER);
                }
            }
        }

        void lookFrom(int i, int j) {
            boolean hasA = i < ground.a.length;
            boolean hasB = j < ground.b.length;
            outlook.end = ofParts || !hasA && !hasB ? 0 : NO_WAY;
            outlook.pair = hasA && hasB ? ground.pairScore(i, j) + rest[cell(PAIR, i + 1, j + 1)] : NO_WAY;
            boolean oneFree = ground.isOneFree(j, free);
            outlook.openOne = oneFree ? 0 : ground.prices.open;
            outlook.one = hasA ? rest[cell(ONE, i + 1, j)] - (oneFree ? 0 : ground.prices.more) : NO_WAY;
            boolean otherFree = ground.isOtherFree(i, free);
            outlook.openOther = otherFree ? 0 : ground.prices.open;
            outlook.other = hasB ? rest[cell(OTHER, i, j + 1)] - (otherFree ? 0 : ground.prices.more) : NO_WAY;
        }

        /** At its start a laying has no gap to go on with, which is as if a pair stood before it. */
        private int worthFrom(int i, int j) {
            return rest[cell(PAIR, i, j)];
        }

        private void startAt(int i, int j) {
            startInA = i;
            startInB = j;
            best = worthFrom(i, j);
        }

        private void startAtFirstBest() {
            startAt(0, 0);
            for (int i = 0; i <= ground.a.length; i++) {
                for (int j = 0; j <= ground.b.length; j++) {
                    if (worthFrom(i, j) > best) {
                        startAt(i, j);
                    }
                }
            }
        }

        boolean canStartBestAt(int i, int j) {
            return ofParts ? worthFrom(i, j) == best : i == 0 && j == 0;
        }
    }

    private static final class Laying {
        final int[] steps = new int[2 * MOST_LETTERS];
        int length;
        int startInA;
        int startInB;
        int endInA;
        int endInB;

        void follow(Search search) {
            startInA = search.startInA;
            startInB = search.startInB;
            endInA = startInA;
            endInB = startInB;
            int before = PAIR;
            for (length = 0; length < steps.length; length++) {
                search.lookFrom(endInA, endInB);
                int step = search.outlook.firstBestStep(before);
                if (step == NONE) {
                    break;
                }
                steps[length] = step;
                endInA += lettersOfA(step);
                endInB += lettersOfB(step);
                before = step;
            }
        }

        private boolean beginsRun(int k) {
            return k == 0 || steps[k] != steps[k - 1];
        }

        int countRuns() {
            int runs = 0;
            for (int k = 0; k < length; k++) {
                runs += beginsRun(k) ? 1 : 0;
            }
            return runs;
        }

        int countGaps() {
            int gaps = 0;
            for (int k = 0; k < length; k++) {
                gaps += steps[k] != PAIR && beginsRun(k) ? 1 : 0;
            }
            return gaps;
        }

        int countGapLetters() {
            int letters = 0;
            for (int k = 0; k < length; k++) {
                letters += steps[k] != PAIR ? 1 : 0;
            }
            return letters;
        }

        int countSamePairs(Ground ground) {
            int same = 0;
            int i = startInA;
            int j = startInB;
            for (int k = 0; k < length; k++) {
                if (steps[k] == PAIR && ground.a.letters[i] == ground.b.letters[j]) {
                    same++;
                }
                i += lettersOfA(steps[k]);
                j += lettersOfB(steps[k]);
            }
            return same;
        }

        /** NONE if there is no such run. */
        int startOfRun(int run) {
            int runs = 0;
            for (int k = 0; k < length; k++) {
                if (beginsRun(k)) {
                    if (runs == run) {
                        return k;
                    }
                    runs++;
                }
            }
            return NONE;
        }

        int lengthOfRunAt(int start) {
            int end = start + 1;
            while (end < length && !beginsRun(end)) {
                end++;
            }
            return end - start;
        }
    }

    /** Counts with Java's wrap-around, which leaves the lowest 63 bits right. */
    private static final class WayCounter {
        private final long[] counts = new long[2 * KINDS * PLACES];

        long countBest(Search search) {
            long all = 0;
            for (int i = search.ground.a.length; i >= 0; i--) {
                for (int j = search.ground.b.length; j >= 0; j--) {
                    search.lookFrom(i, j);
                    for (int before = PAIR; before < KINDS; before++) {
                        counts[cell(before, i & 1, j)] = countFrom(search.outlook, before, i, j);
                    }
                    if (search.canStartBestAt(i, j)) {
                        all += counts[cell(PAIR, i & 1, j)];
                    }
                }
            }
            return all & LOWEST_63_BITS;
        }

        private long countFrom(Outlook outlook, int before, int i, int j) {
            int greatest = outlook.greatestWorth(before);
            long sum = outlook.end == greatest ? 1 : 0;
            for (int step = PAIR; step < KINDS; step++) {
                if (outlook.worthThrough(before, step) == greatest) {
                    sum += counts[cell(step, (i + lettersOfA(step)) & 1, j + lettersOfB(step))];
                }
            }
            return sum;
        }
    }

    /** Goes forwards along all the best whole layings at once. */
    private static final class CrossingFinder {
        final int[] least = new int[PLACES];
        private final boolean[] reached = new boolean[2 * KINDS * PLACES];

        void findAll(Search search) {
            clearPlacesOf(0);
            reached[cell(PAIR, 0, 0)] = true;
            for (int i = 0; i <= search.ground.a.length; i++) {
                clearPlacesOf(i + 1);
                least[i] = NONE;
                for (int j = 0; j <= search.ground.b.length; j++) {
                    if (isReached(i, j)) {
                        least[i] = least[i] == NONE ? j : least[i];
                        goOnFrom(search, i, j);
                    }
                }
            }
        }

        private void clearPlacesOf(int i) {
            int from = cell(PAIR, i & 1, 0);
            for (int k = from; k < from + KINDS * PLACES; k++) {
                reached[k] = false;
            }
        }

        private boolean isReached(int i, int j) {
            return reached[cell(PAIR, i & 1, j)] || reached[cell(ONE, i & 1, j)] || reached[cell(OTHER, i & 1, j)];
        }

        private void goOnFrom(Search search, int i, int j) {
            search.lookFrom(i, j);
            for (int before = PAIR; before < KINDS; before++) {
                if (reached[cell(before, i & 1, j)]) {
                    goOnBehind(search.outlook, before, i, j);
                }
            }
        }

        private void goOnBehind(Outlook outlook, int before, int i, int j) {
            int greatest = outlook.greatestWorth(before);
            for (int step = PAIR; step < KINDS; step++) {
                if (outlook.worthThrough(before, step) == greatest) {
                    reached[cell(step, (i + lettersOfA(step)) & 1, j + lettersOfB(step))] = true;
                }
            }
        }
    }

    private static final class Draft {
        private final int[] drawn = new int[MOST_DRAWN];
        int length;

        void append(int step) {
            drawn[length] = step;
            length++;
        }

        boolean isWholeLaying(Ground ground) {
            int i = 0;
            int j = 0;
            for (int k = 0; k < length; k++) {
                i += lettersOfA(drawn[k]);
                j += lettersOfB(drawn[k]);
            }
            return i == ground.a.length && j == ground.b.length;
        }

        int sumUp(Ground ground, int free) {
            int sum = 0;
            int i = 0;
            int j = 0;
            int before = PAIR;
            for (int k = 0; k < length; k++) {
                int step = drawn[k];
                if (step == PAIR) {
                    sum += ground.pairScore(i, j);
                } else if (step == ONE ? !ground.isOneFree(j, free) : !ground.isOtherFree(i, free)) {
                    sum -= ground.prices.more + (step == before ? 0 : ground.prices.open);
                }
                i += lettersOfA(step);
                j += lettersOfB(step);
                before = step;
            }
            return sum;
        }
    }
}
