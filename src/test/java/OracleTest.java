import java.util.ArrayList;
import java.util.List;
import java.util.Random;

/** Promises 10 to 18 and 21 on small rows, beside every laying there is, each with its worth by the terms' words. */
public final class OracleTest {
    private static final int ROUNDS = 6000;
    /** An object is used again, for what an earlier laying leaves behind, but for less than 512 calls. */
    private static final int ROUNDS_OF_AN_OBJECT = 3;

    private final Check check = new Check("OracleTest");
    private final Random random = new Random(20261115);
    private RowAligner x;
    private String a;
    private String b;
    private int[][] scores;
    private int open;
    private int more;

    private record Laying(int p, int q, String steps, int worth) {
        boolean isBefore(Laying o) {
            if (worth != o.worth) {
                return worth > o.worth;
            }
            if (p != o.p) {
                return p < o.p;
            }
            return q != o.q ? q < o.q : steps.compareTo(o.steps) < 0;
        }
    }

    public static void main(String[] args) {
        OracleTest test = new OracleTest();
        for (int round = 0; round < ROUNDS; round++) {
            test.round(round);
        }
        test.check.end();
    }

    private void round(int round) {
        int letters = 1 + random.nextInt(3);
        a = row(letters);
        b = row(letters);
        retype(round);
        price(letters);
        int free = random.nextInt(16);
        String told = "round " + round + ": " + a + " " + b + " " + open + "+" + more + " ";
        List<Laying> wholes = wholes(free);
        List<Laying> parts = parts();
        boolean partsFirst = random.nextBoolean();
        if (partsFirst) {
            compare(told + "parts ", x.parts(), parts, true);
        }
        compare(told + "whole " + free + " ", x.whole(free), wholes, false);
        if (!partsFirst) {
            compare(told + "parts ", x.parts(), parts, true);
        }
        Laying drawn = wholes.get(random.nextInt(wholes.size()));
        Rows.draw(x, drawn.steps);
        check.same(told + "worth " + free + " of " + drawn.steps, x.worth(free), drawn.worth);
    }

    private void retype(int round) {
        if (round % ROUNDS_OF_AN_OBJECT == 0) {
            x = new RowAligner();
        }
        x.cut(0, 0);
        x.cut(1, 0);
        Rows.type(x, 0, a);
        Rows.type(x, 1, b);
    }

    private String row(int letters) {
        StringBuilder text = new StringBuilder();
        int length = random.nextInt(6);
        for (int k = 0; k < length; k++) {
            text.append((char) ('a' + random.nextInt(letters)));
        }
        return text.toString();
    }

    private void price(int letters) {
        int spread = 1 + random.nextInt(4);
        scores = new int[letters][letters];
        for (int i = 0; i < letters; i++) {
            for (int j = 0; j < letters; j++) {
                scores[i][j] = random.nextInt(2 * spread + 1) - spread;
                x.score(i, j, scores[i][j]);
            }
        }
        open = random.nextInt(3);
        more = random.nextInt(3);
        x.costs(open, more);
    }

    private List<Laying> wholes(int free) {
        List<Laying> all = new ArrayList<>();
        for (String steps : stepRows(a.length(), b.length())) {
            all.add(new Laying(0, 0, steps, worth(0, 0, steps, free)));
        }
        return all;
    }

    private List<Laying> parts() {
        List<Laying> all = new ArrayList<>();
        for (int p = 0; p <= a.length(); p++) {
            for (int q = 0; q <= b.length(); q++) {
                for (int n = 0; p + n <= a.length(); n++) {
                    for (int m = 0; q + m <= b.length(); m++) {
                        for (String steps : stepRows(n, m)) {
                            all.add(new Laying(p, q, steps, worth(p, q, steps, 0)));
                        }
                    }
                }
            }
        }
        return all;
    }

    private final List<List<String>> known = new ArrayList<>();

    private List<String> stepRows(int n, int m) {
        if (known.isEmpty()) {
            for (int k = 0; k < 36; k++) {
                known.add(new ArrayList<>());
                extend(known.get(k), "", k / 6, k % 6);
            }
        }
        return known.get(n * 6 + m);
    }

    private static void extend(List<String> all, String begun, int n, int m) {
        if (n == 0 && m == 0) {
            all.add(begun);
        }
        if (n > 0 && m > 0) {
            extend(all, begun + "0", n - 1, m - 1);
        }
        if (n > 0) {
            extend(all, begun + "1", n - 1, m);
        }
        if (m > 0) {
            extend(all, begun + "2", n, m - 1);
        }
    }

    private int worth(int p, int q, String steps, int free) {
        int sum = 0;
        int i = p;
        int j = q;
        int k = 0;
        while (k < steps.length()) {
            char kind = steps.charAt(k);
            int end = k;
            while (end < steps.length() && steps.charAt(end) == kind) {
                end++;
            }
            int length = end - k;
            if (kind == '0') {
                for (int t = 0; t < length; t++) {
                    sum += scores[a.charAt(i + t) - 'a'][b.charAt(j + t) - 'a'];
                }
            } else {
                boolean isFree = k == 0 && (free & (kind == '1' ? 1 : 2)) != 0
                        || end == steps.length() && (free & (kind == '1' ? 4 : 8)) != 0;
                sum -= isFree ? 0 : open + length * more;
            }
            i += kind == '2' ? 0 : length;
            j += kind == '1' ? 0 : length;
            k = end;
        }
        return sum;
    }

    private void compare(String told, int got, List<Laying> all, boolean ofParts) {
        Laying best = all.get(0);
        for (Laying laying : all) {
            best = laying.isBefore(best) ? laying : best;
        }
        int ways = 0;
        for (Laying laying : all) {
            ways += laying.worth == best.worth ? 1 : 0;
        }
        check.same(told + "its worth", got, best.worth);
        boolean crossingsFirst = random.nextBoolean();
        if (crossingsFirst) {
            check.same(told + "its crossings", Rows.crossings(x), crossings(all, best.worth, ofParts));
        }
        check.same(told + "its ways", x.ways(), ways);
        check.same(told + "its steps", Rows.steps(x), best.steps);
        check.same(told + "its crossings", Rows.crossings(x), crossings(all, best.worth, ofParts));
        int endInA = best.p + best.steps.replace("2", "").length();
        int endInB = best.q + best.steps.replace("1", "").length();
        check.same(told + "its places", Rows.places(x), best.p + ".." + endInA + " " + best.q + ".." + endInB);
        check.same(told + "its counts", Rows.counts(x), counts(best));
        check.same(told + "its runs", Rows.runs(x), runs(best.steps));
    }

    private String crossings(List<Laying> all, int worth, boolean ofParts) {
        StringBuilder text = new StringBuilder();
        for (int i = 0; i <= a.length(); i++) {
            int least = Integer.MAX_VALUE;
            for (Laying laying : all) {
                if (laying.worth == worth && !ofParts) {
                    least = Math.min(least, leastOfB(laying.steps, i));
                }
            }
            text.append(i == 0 ? "" : " ").append(ofParts ? -1 : least);
        }
        return text.toString();
    }

    private static int leastOfB(String steps, int i) {
        for (int k = 0; k <= steps.length(); k++) {
            String taken = steps.substring(0, k);
            if (taken.replace("2", "").length() == i) {
                return taken.replace("1", "").length();
            }
        }
        throw new AssertionError("a whole laying takes all of A");
    }

    private String counts(Laying best) {
        int same = 0;
        int i = best.p;
        int j = best.q;
        for (char step : best.steps.toCharArray()) {
            same += step == '0' && a.charAt(i) == b.charAt(j) ? 1 : 0;
            i += step == '2' ? 0 : 1;
            j += step == '1' ? 0 : 1;
        }
        String runs = best.steps.replaceAll("0+", "P").replaceAll("1+", "G").replaceAll("2+", "H");
        return runs.length() + " " + same + " " + runs.replace("P", "").length() + " "
                + best.steps.replace("0", "").length();
    }

    private static String runs(String steps) {
        StringBuilder text = new StringBuilder();
        int from = 0;
        for (int k = 1; k <= steps.length(); k++) {
            if (k == steps.length() || steps.charAt(k) != steps.charAt(from)) {
                text.append(from == 0 ? "" : " ").append(steps.charAt(from)).append('x').append(k - from);
                from = k;
            }
        }
        return text.toString();
    }
}
