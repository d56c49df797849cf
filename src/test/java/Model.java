import java.util.Arrays;

/**
 * The document once more, written for plainness and not for speed: a laying is made gap by gap, each gap whole, and
 * its steps are found by asking for each next one whether a best laying goes on so.
 */
final class Model {
    private static final int NEVER = -1 << 28;

    private final StringBuilder[] rows = {new StringBuilder(), new StringBuilder()};
    private final int[][] score = new int[26][26];
    private final StringBuilder draft = new StringBuilder();
    private int open = 3;
    private int more = 1;

    private boolean laid;
    private boolean ofParts;
    private int free;
    private int n;
    private int m;
    private int[][][] rest;
    private long[][][] ways;
    private int[] crossings;
    private int p;
    private int q;
    private long allWays;
    private String steps;

    Model() {
        setScores(1, -1);
    }

    private void setScores(int same, int others) {
        for (int x = 0; x < 26; x++) {
            Arrays.fill(score[x], others);
            score[x][x] = same;
        }
    }

    private static void index(boolean right) {
        if (!right) {
            throw new IndexOutOfBoundsException();
        }
    }

    private static void argument(boolean right) {
        if (!right) {
            throw new IllegalArgumentException();
        }
    }

    private static void state(boolean right) {
        if (!right) {
            throw new IllegalStateException();
        }
    }

    int type(int row, long w, int count) {
        index(row == 0 || row == 1);
        argument(count >= 1 && count <= 8);
        StringBuilder typed = new StringBuilder();
        for (int k = 0; k < count; k++) {
            typed.append((char) (w >> 8 * k & 0xff));
        }
        argument(typed.toString().matches("[a-z]+"));
        state(rows[row].length() + count <= 96);
        rows[row].append(typed);
        laid = false;
        return rows[row].length();
    }

    void cut(int row, int count) {
        index(row == 0 || row == 1);
        argument(count >= 0 && count <= rows[row].length());
        rows[row].setLength(count);
        laid = false;
    }

    void turn(int row) {
        index(row == 0 || row == 1);
        rows[row].reverse();
        laid = false;
    }

    int letter(int row, int i) {
        index(row == 0 || row == 1);
        index(i >= 0 && i < rows[row].length());
        return rows[row].charAt(i) - 'a';
    }

    int size(int row) {
        index(row == 0 || row == 1);
        return rows[row].length();
    }

    void score(int x, int y, int v) {
        index(x >= 0 && x < 26 && y >= 0 && y < 26);
        argument(v >= -512 && v <= 512);
        score[x][y] = v;
        laid = false;
    }

    void scores(int same, int others) {
        argument(same >= -512 && same <= 512 && others >= -512 && others <= 512);
        setScores(same, others);
        laid = false;
    }

    void costs(int opening, int going) {
        argument(opening >= 0 && opening <= 512 && going >= 0 && going <= 512);
        open = opening;
        more = going;
        laid = false;
    }

    int whole(int freeEnds) {
        argument(freeEnds >= 0 && freeEnds <= 15);
        ofParts = false;
        free = freeEnds;
        lay();
        return rest[0][0][0];
    }

    int parts() {
        ofParts = true;
        free = 0;
        lay();
        return rest[0][p][q];
    }

    int steps() {
        state(laid);
        return steps.length();
    }

    int step(int i) {
        state(laid);
        index(i >= 0 && i < steps.length());
        return steps.charAt(i) - '0';
    }

    int place(int row, boolean ends) {
        index(row == 0 || row == 1);
        state(laid);
        int begins = row == 0 ? p : q;
        return begins + (ends ? steps.replace(row == 0 ? "2" : "1", "").length() : 0);
    }

    int count(int what) {
        argument(what >= 0 && what <= 3);
        state(laid);
        String runs = steps.replaceAll("(.)\\1*", "$1");
        int[] counts = {runs.length(), samePairs(), runs.replace("0", "").length(), steps.replace("0", "").length()};
        return counts[what];
    }

    private int samePairs() {
        int same = 0;
        int i = p;
        int j = q;
        for (char step : steps.toCharArray()) {
            same += step == '0' && rows[0].charAt(i) == rows[1].charAt(j) ? 1 : 0;
            i += step == '2' ? 0 : 1;
            j += step == '1' ? 0 : 1;
        }
        return same;
    }

    int run(int i, int what) {
        argument(what == 0 || what == 1);
        state(laid);
        String[] runs = steps.isEmpty() ? new String[0] : steps.split("(?<=(.))(?!\\1)");
        index(i >= 0 && i < runs.length);
        return what == 0 ? runs[i].charAt(0) - '0' : runs[i].length();
    }

    long ways() {
        state(laid);
        return allWays & Long.MAX_VALUE;
    }

    int crossing(int i) {
        state(laid);
        index(i >= 0 && i <= n);
        return ofParts ? -1 : crossings[i];
    }

    int draw(int step) {
        argument(step >= 0 && step <= 2);
        state(draft.length() < 200);
        draft.append(step);
        return draft.length();
    }

    int wipe() {
        int had = draft.length();
        draft.setLength(0);
        return had;
    }

    int worth(int freeEnds) {
        argument(freeEnds >= 0 && freeEnds <= 15);
        String drawn = draft.toString();
        if (drawn.replace("2", "").length() != rows[0].length() || drawn.replace("1", "").length() != rows[1].length()) {
            return -1000000;
        }
        int worth = 0;
        int i = 0;
        int j = 0;
        String[] runs = drawn.isEmpty() ? new String[0] : drawn.split("(?<=(.))(?!\\1)");
        for (int k = 0; k < runs.length; k++) {
            int kind = runs[k].charAt(0) - '0';
            int length = runs[k].length();
            for (int t = 0; kind == 0 && t < length; t++) {
                worth += scoreAt(i + t, j + t);
            }
            boolean isFree = k == 0 && (freeEnds & kind) != 0
                    || k == runs.length - 1 && (freeEnds & kind * 4) != 0;
            worth -= kind == 0 || isFree ? 0 : open + length * more;
            i += kind == 2 ? 0 : length;
            j += kind == 1 ? 0 : length;
        }
        return worth;
    }

    private int scoreAt(int i, int j) {
        return score[rows[0].charAt(i) - 'a'][rows[1].charAt(j) - 'a'];
    }

    private int cost(int kind, int i, int j, int length) {
        boolean begins = !ofParts && i == 0 && j == 0;
        boolean ends = !ofParts && i + (kind == 1 ? length : 0) == n && j + (kind == 2 ? length : 0) == m;
        boolean isFree = begins && (free & kind) != 0 || ends && (free & kind * 4) != 0;
        return isFree ? 0 : open + length * more;
    }

    private void lay() {
        n = rows[0].length();
        m = rows[1].length();
        rest = new int[3][n + 1][m + 1];
        ways = new long[3][n + 1][m + 1];
        for (int i = n; i >= 0; i--) {
            for (int j = m; j >= 0; j--) {
                for (int before = 0; before < 3; before++) {
                    fill(before, i, j);
                }
            }
        }
        start();
        steps = firstSteps();
        crossings = new int[n + 1];
        if (!ofParts) {
            cross();
        }
        laid = true;
    }

    private int longest(int before, int kind, int i, int j) {
        if (kind == 0) {
            return i < n && j < m ? 1 : 0;
        }
        return before == kind ? 0 : kind == 1 ? n - i : m - j;
    }

    private int throughRun(int kind, int i, int j, int k) {
        int gain = kind == 0 ? scoreAt(i, j) : -cost(kind, i, j, k);
        return gain + rest[kind][i + (kind == 2 ? 0 : k)][j + (kind == 1 ? 0 : k)];
    }

    /** What is behind a gap does not go on with it: a gap is as long as can be. */
    private void fill(int before, int i, int j) {
        int best = ofParts || i == n && j == m ? 0 : NEVER;
        long count = best == 0 ? 1 : 0;
        for (int kind = 0; kind < 3; kind++) {
            for (int k = 1; k <= longest(before, kind, i, j); k++) {
                int worth = throughRun(kind, i, j, k);
                long more = ways[kind][i + (kind == 2 ? 0 : k)][j + (kind == 1 ? 0 : k)];
                count = worth > best ? more : worth == best && best > NEVER / 2 ? count + more : count;
                best = Math.max(best, worth);
            }
        }
        rest[before][i][j] = best;
        ways[before][i][j] = count;
    }

    private void start() {
        int lastP = ofParts ? n : 0;
        int lastQ = ofParts ? m : 0;
        int best = NEVER;
        for (int i = 0; i <= lastP; i++) {
            for (int j = 0; j <= lastQ; j++) {
                best = Math.max(best, rest[0][i][j]);
            }
        }
        p = -1;
        allWays = 0;
        for (int i = 0; i <= lastP; i++) {
            for (int j = 0; j <= lastQ; j++) {
                if (rest[0][i][j] == best) {
                    allWays += ways[0][i][j];
                    q = p < 0 ? j : q;
                    p = p < 0 ? i : p;
                }
            }
        }
    }

    private String firstSteps() {
        int best = rest[0][p][q];
        String begun = "";
        while (greatestWorthOf(begun, true) != best) {
            int next = 0;
            while (greatestWorthOf(begun + next, false) != best) {
                next++;
            }
            begun += next;
        }
        return begun;
    }

    /** Of all layings that begin with these steps, or have no others. */
    private int greatestWorthOf(String begun, boolean ended) {
        int worth = 0;
        int i = p;
        int j = q;
        int k = 0;
        while (k < begun.length()) {
            int kind = begun.charAt(k) - '0';
            int length = 1;
            while (kind != 0 && k + length < begun.length() && begun.charAt(k + length) - '0' == kind) {
                length++;
            }
            if (i + (kind == 2 ? 0 : length) > n || j + (kind == 1 ? 0 : length) > m) {
                return NEVER;
            }
            k += length;
            if (k == begun.length() && !ended) {
                return worth + greatestThroughRun(kind, i, j, length);
            }
            worth += kind == 0 ? scoreAt(i, j) : -cost(kind, i, j, length);
            i += kind == 2 ? 0 : length;
            j += kind == 1 ? 0 : length;
        }
        return ofParts || i == n && j == m ? worth : NEVER;
    }

    private int greatestThroughRun(int kind, int i, int j, int least) {
        int greatest = NEVER;
        for (int k = least; k <= longest(-1, kind, i, j); k++) {
            greatest = Math.max(greatest, throughRun(kind, i, j, k));
        }
        return greatest;
    }

    private void cross() {
        boolean[][][] reached = new boolean[3][n + 1][m + 1];
        reached[0][0][0] = true;
        Arrays.fill(crossings, Integer.MAX_VALUE);
        crossings[0] = 0;
        for (int i = 0; i <= n; i++) {
            for (int j = 0; j <= m; j++) {
                for (int before = 0; before < 3; before++) {
                    if (reached[before][i][j]) {
                        crossFrom(reached, before, i, j);
                    }
                }
            }
        }
    }

    private void crossFrom(boolean[][][] reached, int before, int i, int j) {
        for (int kind = 0; kind < 3; kind++) {
            for (int k = 1; k <= longest(before, kind, i, j); k++) {
                if (throughRun(kind, i, j, k) != rest[before][i][j]) {
                    continue;
                }
                int endI = i + (kind == 2 ? 0 : k);
                int endJ = j + (kind == 1 ? 0 : k);
                reached[kind][endI][endJ] = true;
                crossings[endI] = Math.min(crossings[endI], endJ);
                for (int t = 1; kind == 1 && t < k; t++) {
                    crossings[i + t] = Math.min(crossings[i + t], j);
                }
            }
        }
    }
}
