import java.math.BigInteger;
import java.util.Random;

/** Promises 10 to 18 on rows of up to 96 letters, beside a slower search that goes gap by gap, not step by step. */
public final class LargeTest {
    private static final BigInteger ABOVE = BigInteger.ONE.shiftLeft(63);

    private final Check check = new Check("LargeTest");
    private final Random random = new Random(96);

    public static void main(String[] args) {
        LargeTest test = new LargeTest();
        test.waysAbove63Bits();
        test.extremes();
        for (int round = 0; round < 60; round++) {
            test.round(round);
        }
        test.check.end();
    }

    /** If all steps are worth nothing, there is a way for each path of steps: the numbers of Delannoy. */
    private void waysAbove63Bits() {
        BigInteger[][] paths = new BigInteger[97][97];
        BigInteger all = BigInteger.ZERO;
        for (int n = 0; n <= 96; n++) {
            for (int m = 0; m <= 96; m++) {
                paths[n][m] = n == 0 || m == 0 ? BigInteger.ONE
                        : paths[n - 1][m].add(paths[n][m - 1]).add(paths[n - 1][m - 1]);
                all = all.add(paths[n][m].multiply(BigInteger.valueOf((97 - n) * (97 - m))));
            }
        }
        for (int n : new int[] {20, 24, 25, 26, 27, 50, 96}) {
            RowAligner x = Rows.of("a".repeat(n), "b".repeat(n));
            x.scores(0, 0);
            x.costs(0, 0);
            x.whole(0);
            check.same("ways of " + n + " letters", x.ways(), paths[n][n].mod(ABOVE).longValueExact());
            if (n == 96) {
                x.parts();
                check.same("ways of parts of 96 letters", x.ways(), all.mod(ABOVE).longValueExact());
            }
        }
    }

    private void extremes() {
        RowAligner x = Rows.of("a".repeat(96), "a".repeat(96));
        x.scores(512, 512);
        x.costs(512, 512);
        check.same("the greatest worth", x.whole(0), 96 * 512);
        check.same("the greatest worth of parts", x.parts(), 96 * 512);
        check.same("its places", Rows.places(x), "0..96 0..96");
        x.scores(-512, -512);
        check.same("the least worth of the best", x.whole(0), -96 * 512);
        check.same("parts of nothing good", x.parts(), 0);
        check.same("ways of parts of nothing good", x.ways(), 97 * 97);
        x.scores(0, 0);
        x.costs(0, 0);
        x.whole(0);
        check.same("pairs come first", Rows.steps(x), "0".repeat(96));
        x.scores(-1, -1);
        check.same("gaps for nothing", x.whole(0), 0);
        check.same("192 steps", Rows.steps(x), "1".repeat(96) + "2".repeat(96));
        check.same("crossing(96) of them", x.crossing(96), 0);
        check.outOfBounds("step(192)", () -> x.step(192));
    }

    private void round(int round) {
        int letters = 1 + random.nextInt(4);
        int n = round % 5 == 0 ? 96 : random.nextInt(97);
        int m = round % 7 == 0 ? 96 : random.nextInt(97);
        Reference r = new Reference();
        r.a = row(n, letters);
        r.b = row(m, letters);
        r.same = random.nextInt(5);
        r.others = -random.nextInt(5);
        r.open = random.nextInt(5);
        r.more = random.nextInt(3);
        for (int free : new int[] {0, random.nextInt(16), 15}) {
            compareWhole("round " + round + " whole " + free + " ", r, free);
        }
        compareParts("round " + round + " parts ", r);
    }

    private static RowAligner alignerOf(Reference r) {
        RowAligner x = Rows.of(r.a, r.b);
        x.scores(r.same, r.others);
        x.costs(r.open, r.more);
        return x;
    }

    private String row(int length, int letters) {
        StringBuilder text = new StringBuilder();
        for (int k = 0; k < length; k++) {
            text.append((char) ('a' + random.nextInt(letters)));
        }
        return text.toString();
    }

    private void compareWhole(String told, Reference r, int free) {
        RowAligner x = alignerOf(r);
        r.searchWhole(free);
        check.same(told + "worth", x.whole(free), r.best);
        check.same(told + "ways", x.ways(), r.ways.mod(ABOVE).longValueExact());
        check.same(told + "crossings", Rows.crossings(x), r.crossings());
        check.same(told + "steps", Rows.steps(x), r.firstSteps());
        RowAligner draft = alignerOf(r);
        Rows.draw(draft, r.firstSteps());
        check.same(told + "as a draft", draft.worth(free), r.best);
    }

    private void compareParts(String told, Reference r) {
        RowAligner x = alignerOf(r);
        r.searchParts();
        check.same(told + "worth", x.parts(), r.best);
        check.same(told + "ways", x.ways(), r.ways.mod(ABOVE).longValueExact());
        check.same(told + "crossing", x.crossing(0), -1);
    }

    /** From the start of the rows forwards; a gap is laid whole, from where it begins to where it ends. */
    private static final class Reference {
        private static final int NEVER = -1 << 28;
        String a;
        String b;
        int same;
        int others;
        int open;
        int more;
        int best;
        BigInteger ways;
        private int free;
        private boolean ofParts;
        private int[][][] worth;
        private BigInteger[][][] count;
        private boolean[][][] onBest;
        private boolean[][] crossed;

        void searchWhole(int freeEnds) {
            free = freeEnds;
            ofParts = false;
            fill();
            int n = a.length();
            int m = b.length();
            best = NEVER;
            for (int kind = 0; kind < 3; kind++) {
                best = Math.max(best, worth[kind][n][m]);
            }
            ways = BigInteger.ZERO;
            onBest = new boolean[3][n + 1][m + 1];
            crossed = new boolean[n + 1][m + 1];
            for (int kind = 0; kind < 3; kind++) {
                if (worth[kind][n][m] == best) {
                    ways = ways.add(count[kind][n][m]);
                    onBest[kind][n][m] = true;
                }
            }
            markBackwards();
        }

        void searchParts() {
            free = 0;
            ofParts = true;
            fill();
            best = 0;
            ways = BigInteger.ZERO;
            for (int kind = 0; kind < 3; kind++) {
                for (int[] row : worth[kind]) {
                    for (int v : row) {
                        best = Math.max(best, v);
                    }
                }
            }
            for (int kind = 0; kind < 3; kind++) {
                for (int i = 0; i <= a.length(); i++) {
                    for (int j = 0; j <= b.length(); j++) {
                        if (worth[kind][i][j] == best) {
                            ways = ways.add(count[kind][i][j]);
                        }
                    }
                }
            }
            // the layings without a letter stand in no cell of their own in parts
            if (best == 0) {
                ways = ways.add(BigInteger.valueOf((a.length() + 1L) * (b.length() + 1L)));
            }
        }

        private void fill() {
            worth = new int[3][a.length() + 1][b.length() + 1];
            count = new BigInteger[3][a.length() + 1][b.length() + 1];
            for (int i = 0; i <= a.length(); i++) {
                for (int j = 0; j <= b.length(); j++) {
                    for (int kind = 0; kind < 3; kind++) {
                        worth[kind][i][j] = NEVER;
                        count[kind][i][j] = BigInteger.ZERO;
                    }
                    if (!ofParts && i == 0 && j == 0) {
                        worth[0][0][0] = 0;
                        count[0][0][0] = BigInteger.ONE;
                    }
                    fillPair(i, j);
                    for (int k = 1; k <= i; k++) {
                        fillGap(1, i, j, i - k, j, k);
                    }
                    for (int k = 1; k <= j; k++) {
                        fillGap(2, i, j, i, j - k, k);
                    }
                }
            }
        }

        private void fillPair(int i, int j) {
            if (i == 0 || j == 0) {
                return;
            }
            int score = score(i, j);
            for (int kind = 0; kind < 3; kind++) {
                improve(0, i, j, worth[kind][i - 1][j - 1] + score, count[kind][i - 1][j - 1]);
            }
            if (ofParts) {
                improve(0, i, j, score, BigInteger.ONE);
            }
        }

        private int score(int i, int j) {
            return a.charAt(i - 1) == b.charAt(j - 1) ? same : others;
        }

        private void fillGap(int gap, int i, int j, int fromI, int fromJ, int k) {
            int cost = cost(gap, i, j, fromI, fromJ, k);
            for (int kind = 0; kind < 3; kind++) {
                if (kind != gap) {
                    improve(gap, i, j, worth[kind][fromI][fromJ] - cost, count[kind][fromI][fromJ]);
                }
            }
            if (ofParts) {
                improve(gap, i, j, -cost, BigInteger.ONE);
            }
        }

        private int cost(int gap, int i, int j, int fromI, int fromJ, int k) {
            boolean begins = fromI == 0 && fromJ == 0;
            boolean ends = i == a.length() && j == b.length();
            boolean isFree = begins && (free & gap) != 0 || ends && (free & gap << 2) != 0;
            return isFree ? 0 : open + k * more;
        }

        private void improve(int kind, int i, int j, int v, BigInteger added) {
            if (v < NEVER / 2 || added.signum() == 0) {
                return;
            }
            if (v > worth[kind][i][j]) {
                worth[kind][i][j] = v;
                count[kind][i][j] = BigInteger.ZERO;
            }
            if (v == worth[kind][i][j]) {
                count[kind][i][j] = count[kind][i][j].add(added);
            }
        }

        private void markBackwards() {
            for (int i = a.length(); i >= 0; i--) {
                for (int j = b.length(); j >= 0; j--) {
                    for (int kind = 0; kind < 3; kind++) {
                        if (onBest[kind][i][j]) {
                            crossed[i][j] = true;
                            markBehind(kind, i, j);
                        }
                    }
                }
            }
        }

        private void markBehind(int kind, int i, int j) {
            int longest = kind == 0 ? Math.min(1, Math.min(i, j)) : kind == 1 ? i : j;
            for (int k = 1; k <= longest; k++) {
                int fromI = kind == 2 ? i : i - k;
                int fromJ = kind == 1 ? j : j - k;
                int gain = kind == 0 ? score(i, j) : -cost(kind, i, j, fromI, fromJ, k);
                for (int before = 0; before < 3; before++) {
                    if ((kind == 0 || before != kind) && worth[before][fromI][fromJ] > NEVER / 2
                            && worth[before][fromI][fromJ] + gain == worth[kind][i][j]) {
                        onBest[before][fromI][fromJ] = true;
                        markAlong(kind, fromI, fromJ, k);
                    }
                }
            }
        }

        private void markAlong(int kind, int fromI, int fromJ, int k) {
            for (int t = 0; t < k; t++) {
                crossed[fromI + (kind == 2 ? 0 : t)][fromJ + (kind == 1 ? 0 : t)] = true;
            }
        }

        String crossings() {
            StringBuilder text = new StringBuilder();
            for (int i = 0; i <= a.length(); i++) {
                int j = 0;
                while (!crossed[i][j]) {
                    j++;
                }
                text.append(i == 0 ? "" : " ").append(j);
            }
            return text.toString();
        }

        /** The first of the best, by comparing all their steps as texts. */
        String firstSteps() {
            String[][][] least = new String[3][a.length() + 1][b.length() + 1];
            int[][][] rest = new int[3][a.length() + 1][b.length() + 1];
            for (int i = a.length(); i >= 0; i--) {
                for (int j = b.length(); j >= 0; j--) {
                    for (int before = 0; before < 3; before++) {
                        firstStepsFrom(before, i, j, rest, least);
                    }
                }
            }
            return least[0][0][0];
        }

        private void firstStepsFrom(int before, int i, int j, int[][][] rest, String[][][] least) {
            int n = a.length();
            int m = b.length();
            rest[before][i][j] = i == n && j == m ? 0 : NEVER;
            least[before][i][j] = "";
            if (i < n && j < m) {
                prefer(before, i, j, rest, least, score(i + 1, j + 1) + rest[0][i + 1][j + 1],
                        "0" + least[0][i + 1][j + 1]);
            }
            for (int k = 1; before != 1 && i + k <= n; k++) {
                prefer(before, i, j, rest, least, rest[1][i + k][j] - cost(1, i + k, j, i, j, k),
                        "1".repeat(k) + least[1][i + k][j]);
            }
            for (int k = 1; before != 2 && j + k <= m; k++) {
                prefer(before, i, j, rest, least, rest[2][i][j + k] - cost(2, i, j + k, i, j, k),
                        "2".repeat(k) + least[2][i][j + k]);
            }
        }

        private void prefer(int before, int i, int j, int[][][] rest, String[][][] least, int v, String steps) {
            if (v < NEVER / 2) {
                return;
            }
            if (v > rest[before][i][j] || v == rest[before][i][j] && steps.compareTo(least[before][i][j]) < 0) {
                rest[before][i][j] = v;
                least[before][i][j] = steps;
            }
        }
    }
}
