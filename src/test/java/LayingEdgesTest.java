import java.math.BigInteger;

/** Promises 10 to 18: a test of its own for each sentence of the document that names a boundary case. */
public final class LayingEdgesTest {
    private static final int[] NO_FREE = {-1, 16, 17, 31, 32, 256, Integer.MIN_VALUE, Integer.MAX_VALUE};
    private static final int[] FAR_OFF = {-1, -2, 1000, 65536, Integer.MIN_VALUE, Integer.MAX_VALUE};

    private final Check check = new Check("LayingEdgesTest");

    public static void main(String[] args) {
        LayingEdgesTest test = new LayingEdgesTest();
        test.whole();
        test.parts();
        test.steps();
        test.step();
        test.place();
        test.count();
        test.run();
        test.ways();
        test.waysAbove63Bits();
        test.crossing();
        test.wrongCrossing();
        test.check.end();
    }

    /** A row of 96 letters with 48 pairs, 48 letters of A alone and 48 of B alone: 144 runs of one step. */
    private static RowAligner manyRuns() {
        RowAligner x = Rows.of("ab".repeat(48), "ac".repeat(48));
        x.scores(100, -100);
        x.whole(0);
        return x;
    }

    /** Rows of 96 letters without a pair: 192 steps. */
    private static RowAligner manySteps() {
        RowAligner x = Rows.of("a".repeat(96), "b".repeat(96));
        x.scores(1, -512);
        x.whole(0);
        return x;
    }

    private void whole() {
        check.sentence("10: The BEST WHOLE laying with FREE ends: its worth.", () -> {
            for (int free = 0; free < 16; free++) {
                RowAligner x = Rows.of("qqabrrr", "ab");
                x.scores(100, -100);
                check.same("A round B, whole(" + free + ")", x.whole(free),
                        200 - ((free & 1) != 0 ? 0 : 5) - ((free & 4) != 0 ? 0 : 6));
                RowAligner y = Rows.of("ab", "qqabrrr");
                y.scores(100, -100);
                check.same("B round A, whole(" + free + ")", y.whole(free),
                        200 - ((free & 2) != 0 ? 0 : 5) - ((free & 8) != 0 ? 0 : 6));
                RowAligner none = new RowAligner();
                check.same("nothing, whole(" + free + ")", none.whole(free), 0);
            }
        });
        check.sentence("10: IllegalArgumentException: free is not 0 .. 15.", () -> {
            for (int free : NO_FREE) {
                RowAligner x = Rows.of("ab", "b");
                check.badArgument("whole(" + free + ")", () -> x.whole(free));
                check.badState("steps() then", () -> x.steps());
                x.whole(1);
                check.badArgument("whole(" + free + ") behind another", () -> x.whole(free));
                check.same("the steps of the other", Rows.steps(x), "10");
                check.same("the ways of the other", x.ways(), 1);
                check.same("the crossing of the other", x.crossing(1), 0);
            }
        });
    }

    private void parts() {
        check.sentence("11: The BEST laying of PARTS: its worth.", () -> {
            check.same("of nothing", new RowAligner().parts(), 0);
            check.same("of A alone", Rows.of("aaa", "").parts(), 0);
            check.same("of B alone", Rows.of("", "aaa").parts(), 0);
            check.same("of one letter in common", Rows.of("xay", "zaw").parts(), 1);
            check.same("never less than none", Rows.of("abc", "def").parts(), 0);
            RowAligner x = Rows.of("a".repeat(96), "a".repeat(96));
            x.scores(512, 512);
            check.same("the greatest there is", x.parts(), 49152);
            x.scores(-512, -512);
            check.same("none, where all is bad", x.parts(), 0);
        });
    }

    private void steps() {
        check.sentence("12: How many steps the latest laying has.", () -> {
            RowAligner x = Rows.of("abc", "xxabcx");
            x.parts();
            check.same("of parts", x.steps(), 3);
            x.whole(0);
            check.same("of whole, behind parts", x.steps(), 6);
            x.parts();
            check.same("of parts, behind whole", x.steps(), 3);
            RowAligner none = new RowAligner();
            none.whole(0);
            check.same("none", none.steps(), 0);
            check.same("192", manySteps().steps(), 192);
        });
        check.sentence("12: IllegalStateException.", () -> {
            RowAligner x = Rows.of("a", "b");
            check.badState("steps() before", () -> x.steps());
            x.whole(0);
            x.turn(0);
            check.badState("steps() behind a change", () -> x.steps());
        });
    }

    private void step() {
        check.sentence("13: Step i of it.", () -> {
            RowAligner x = manySteps();
            for (int i = 0; i < 192; i++) {
                check.same("step(" + i + ")", x.step(i), i < 96 ? 1 : 2);
            }
            RowAligner y = manyRuns();
            for (int i = 0; i < 144; i++) {
                check.same("step(" + i + ")", y.step(i), i % 3);
            }
        });
        check.sentence("13: IndexOutOfBoundsException (there is no such step)", () -> {
            RowAligner none = new RowAligner();
            none.parts();
            check.outOfBounds("step(0) of none", () -> none.step(0));
            RowAligner x = manySteps();
            check.outOfBounds("step(192)", () -> x.step(192));
            x.whole(9);
            check.outOfBounds("step(192) again", () -> x.step(192));
            x.scores(1, 0);
            x.whole(0);
            check.outOfBounds("step(96) of 96", () -> x.step(96));
            for (int i : FAR_OFF) {
                check.outOfBounds("step(" + i + ")", () -> x.step(i));
            }
            x.parts();
            check.outOfBounds("step(0) of parts without a letter", () -> x.step(0));
        });
        check.sentence("13: IllegalStateException (first, if nothing was laid).", () -> {
            RowAligner x = Rows.of("ab", "ab");
            for (int i : new int[] {0, 1, -1, 2, 192, Integer.MIN_VALUE, Integer.MAX_VALUE}) {
                check.badState("step(" + i + ") before", () -> x.step(i));
            }
            x.whole(0);
            x.costs(3, 1);
            for (int i : new int[] {0, 1, -1, 2, 192, Integer.MIN_VALUE, Integer.MAX_VALUE}) {
                check.badState("step(" + i + ") behind a change", () -> x.step(i));
            }
        });
    }

    private void place() {
        check.sentence("14: Where its part of a row begins (ends = false)", () -> {
            RowAligner x = Rows.of("qqabc", "rabc");
            x.parts();
            check.same("in A", x.place(0, false), 2);
            check.same("in B", x.place(1, false), 1);
            x.whole(0);
            check.same("in A, whole", x.place(0, false), 0);
            check.same("in B, whole", x.place(1, false), 0);
            RowAligner last = Rows.of("b".repeat(95) + "a", "c".repeat(95) + "a");
            last.parts();
            check.same("at the last letter of A", last.place(0, false), 95);
            check.same("at the last letter of B", last.place(1, false), 95);
        });
        check.sentence("14: .. or the place behind its last letter.", () -> {
            RowAligner x = Rows.of("abcqq", "abcr");
            x.parts();
            check.same("in A", x.place(0, true), 3);
            check.same("in B", x.place(1, true), 3);
            x.whole(0);
            check.same("in A, whole", x.place(0, true), 5);
            check.same("in B, whole", x.place(1, true), 4);
            RowAligner full = Rows.of("a".repeat(96), "");
            full.whole(0);
            check.same("of 96", full.place(0, true), 96);
            check.same("of none", full.place(1, true), 0);
            full.parts();
            check.same("of parts without a letter", Rows.places(full), "0..0 0..0");
        });
        check.sentence("14: IndexOutOfBoundsException", () -> {
            RowAligner x = Rows.of("a", "a");
            for (int row : new int[] {-1, 2, 3, 256, Integer.MIN_VALUE, Integer.MAX_VALUE}) {
                check.outOfBounds("place(" + row + ", false) before", () -> x.place(row, false));
                check.outOfBounds("place(" + row + ", true) before", () -> x.place(row, true));
            }
            x.whole(0);
            for (int row : new int[] {-1, 2, 3, 256, Integer.MIN_VALUE, Integer.MAX_VALUE}) {
                check.outOfBounds("place(" + row + ", false)", () -> x.place(row, false));
                check.outOfBounds("place(" + row + ", true)", () -> x.place(row, true));
            }
        });
        check.sentence("14: IllegalStateException.", () -> {
            RowAligner x = Rows.of("a", "a");
            x.parts();
            x.score(4, 4, 4);
            for (RowAligner y : new RowAligner[] {new RowAligner(), x}) {
                for (int row = 0; row < 2; row++) {
                    int r = row;
                    check.badState("place(" + r + ", false)", () -> y.place(r, false));
                    check.badState("place(" + r + ", true)", () -> y.place(r, true));
                }
            }
        });
    }

    private void count() {
        check.sentence("15: Steps of the same kind, as long as can be, are RUNS: how many there are (what = 0)", () -> {
            RowAligner none = new RowAligner();
            none.whole(0);
            check.same("none", none.count(0), 0);
            check.same("two of 96 steps each", manySteps().count(0), 2);
            check.same("144 of a step each", manyRuns().count(0), 144);
            RowAligner x = Rows.of("a", "a");
            x.parts();
            check.same("one of a step", x.count(0), 1);
        });
        check.sentence("15: how many pairs have the same letter (1)", () -> {
            RowAligner x = Rows.of("abz", "acz");
            x.whole(0);
            check.same("two of three", x.count(1), 2);
            x.scores(-3, 3);
            x.whole(0);
            check.same("at scores that like others", Rows.steps(x) + " " + x.count(1), "1002 0");
            x.scores(0, 0);
            x.whole(0);
            check.same("at scores of 0", x.count(1), 2);
            check.same("none", manySteps().count(1), 0);
            RowAligner full = Rows.of("a".repeat(96), "a".repeat(96));
            full.whole(0);
            check.same("96", full.count(1), 96);
            RowAligner part = Rows.of("aqqba", "brb");
            part.parts();
            check.same("in parts that begin further on", part.count(1), 1);
        });
        check.sentence("15: gaps (2)", () -> {
            RowAligner none = new RowAligner();
            none.parts();
            check.same("none", none.count(2), 0);
            check.same("two side by side", manySteps().count(2), 2);
            check.same("96 of a letter each", manyRuns().count(2), 96);
            RowAligner free = Rows.of("qa", "aq");
            free.whole(9);
            check.same("also those that cost nothing", free.count(2), 2);
        });
        check.sentence("15: letters in gaps (3)", () -> {
            RowAligner none = new RowAligner();
            none.parts();
            check.same("none", none.count(3), 0);
            check.same("192", manySteps().count(3), 192);
            check.same("96 of a letter each", manyRuns().count(3), 96);
            RowAligner free = Rows.of("qqa", "aqqq");
            free.whole(9);
            check.same("also those that cost nothing", free.count(3), 5);
        });
        check.sentence("15: IllegalArgumentException: another what", () -> {
            RowAligner x = Rows.of("a", "a");
            for (int what : new int[] {-1, 4, 5, 256, Integer.MIN_VALUE, Integer.MAX_VALUE}) {
                check.badArgument("count(" + what + ") before", () -> x.count(what));
            }
            x.whole(0);
            for (int what : new int[] {-1, 4, 5, 256, Integer.MIN_VALUE, Integer.MAX_VALUE}) {
                check.badArgument("count(" + what + ")", () -> x.count(what));
            }
        });
        check.sentence("15: IllegalStateException.", () -> {
            RowAligner x = Rows.of("a", "a");
            x.whole(0);
            x.cut(0, 1);
            for (int what = 0; what < 4; what++) {
                int w = what;
                check.badState("count(" + w + ") before", () -> new RowAligner().count(w));
                check.badState("count(" + w + ") behind a change", () -> x.count(w));
            }
        });
    }

    private void run() {
        check.sentence("16: Run i: its kind (what = 0), how many steps it has (1).", () -> {
            RowAligner x = manyRuns();
            for (int i = 0; i < 144; i++) {
                check.same("the kind of run " + i, x.run(i, 0), i % 3);
                check.same("the steps of run " + i, x.run(i, 1), 1);
            }
            check.same("two runs of 96", Rows.runs(manySteps()), "1x96 2x96");
            RowAligner full = Rows.of("a".repeat(96), "a".repeat(96));
            full.parts();
            check.same("one run of 96", Rows.runs(full), "0x96");
        });
        check.sentence("16: IllegalArgumentException: another what", () -> {
            RowAligner x = Rows.of("a", "a");
            for (int what : new int[] {-1, 2, 3, 256, Integer.MIN_VALUE, Integer.MAX_VALUE}) {
                check.badArgument("run(0, " + what + ") before", () -> x.run(0, what));
                check.badArgument("run(-1, " + what + ") before", () -> x.run(-1, what));
            }
            x.whole(0);
            for (int what : new int[] {-1, 2, 3, 256, Integer.MIN_VALUE, Integer.MAX_VALUE}) {
                check.badArgument("run(0, " + what + ")", () -> x.run(0, what));
                check.badArgument("run(1, " + what + ")", () -> x.run(1, what));
                check.badArgument("run(-1, " + what + ")", () -> x.run(-1, what));
            }
        });
        check.sentence("16: IllegalStateException", () -> {
            RowAligner x = Rows.of("a", "a");
            x.whole(0);
            x.scores(1, -1);
            for (int i : new int[] {0, 1, -1, Integer.MIN_VALUE, Integer.MAX_VALUE}) {
                check.badState("run(" + i + ", 0) before", () -> new RowAligner().run(i, 0));
                check.badState("run(" + i + ", 1) before", () -> new RowAligner().run(i, 1));
                check.badState("run(" + i + ", 0) behind a change", () -> x.run(i, 0));
                check.badState("run(" + i + ", 1) behind a change", () -> x.run(i, 1));
            }
        });
        check.sentence("16: IndexOutOfBoundsException (there is no such run)", () -> {
            RowAligner none = new RowAligner();
            none.whole(0);
            RowAligner[] laid = {none, manyRuns(), manySteps()};
            for (RowAligner x : laid) {
                int runs = x.count(0);
                for (int what = 0; what < 2; what++) {
                    int w = what;
                    check.outOfBounds("run(" + runs + ", " + w + ")", () -> x.run(runs, w));
                    check.outOfBounds("run(" + (runs + 1) + ", " + w + ")", () -> x.run(runs + 1, w));
                    for (int i : FAR_OFF) {
                        check.outOfBounds("run(" + i + ", " + w + ")", () -> x.run(i, w));
                    }
                }
            }
        });
    }

    private void ways() {
        check.sentence("17: In how many ways there is a laying of that worth (WHOLE with those FREE ends, ..)", () -> {
            RowAligner x = Rows.of("aaaaa", "aa");
            for (int free = 0; free < 16; free++) {
                x.whole(free);
                check.same("ways of whole(" + free + ")", x.ways(), waysOfFive(free));
            }
            x.whole(0);
            check.same("ways of whole(0) again", x.ways(), 3);
        });
        check.sentence("17: (.. or of PARTS, at any places, also without a letter)", () -> {
            RowAligner x = Rows.of("abcab", "ab");
            x.parts();
            check.same("at two places", x.ways(), 2);
            x.cut(1, 0);
            x.parts();
            check.same("without a letter, at six places", x.ways(), 6);
            x.costs(0, 0);
            x.parts();
            check.same("of any letters of A, at any places", x.ways(), 6 + 15);
            RowAligner none = new RowAligner();
            none.parts();
            check.same("of nothing", none.ways(), 1);
            none.whole(15);
            check.same("of nothing, whole", none.ways(), 1);
            RowAligner apart = Rows.of("a".repeat(96), "b".repeat(96));
            apart.parts();
            check.same("without a letter, at all places", apart.ways(), 97 * 97);
            apart.scores(0, 0);
            apart.cut(0, 1);
            apart.cut(1, 1);
            apart.parts();
            check.same("a pair worth nothing, and four without a letter", apart.ways(), 5);
        });
        check.sentence("17: IllegalStateException.", () -> {
            RowAligner x = Rows.of("a", "a");
            check.badState("ways() before", () -> x.ways());
            x.whole(0);
            check.same("ways()", x.ways(), 1);
            x.type(0, 'a', 1);
            check.badState("ways() behind a change", () -> x.ways());
        });
    }

    /** Of aaaaa two a's lie beside aa; the three others lie before, between and behind them. */
    private static int waysOfFive(int free) {
        int least = Integer.MAX_VALUE;
        int ways = 0;
        for (int before = 0; before <= 3; before++) {
            for (int between = 0; before + between <= 3; between++) {
                int behind = 3 - before - between;
                int cost = cost(before, (free & 1) != 0) + cost(between, false) + cost(behind, (free & 4) != 0);
                if (cost < least) {
                    least = cost;
                    ways = 0;
                }
                ways += cost == least ? 1 : 0;
            }
        }
        return ways;
    }

    private static int cost(int letters, boolean free) {
        return free || letters == 0 ? 0 : 3 + letters;
    }

    private void waysAbove63Bits() {
        check.sentence("17: without what is above 63 bits", () -> {
            BigInteger above = BigInteger.ONE.shiftLeft(63);
            BigInteger[][] paths = new BigInteger[97][97];
            boolean[] seen = new boolean[70];
            for (int n = 0; n <= 96; n++) {
                for (int m = 0; m <= 96; m++) {
                    paths[n][m] = n == 0 || m == 0 ? BigInteger.ONE
                            : paths[n - 1][m].add(paths[n][m - 1]).add(paths[n - 1][m - 1]);
                    int bits = paths[n][m].bitLength();
                    if (bits < 60 || bits > 68 || seen[bits]) {
                        continue;
                    }
                    seen[bits] = true;
                    RowAligner x = Rows.of("a".repeat(n), "a".repeat(m));
                    x.scores(0, 0);
                    x.costs(0, 0);
                    x.whole(0);
                    check.same("ways of " + bits + " bits", x.ways(), paths[n][m].mod(above).longValueExact());
                }
            }
            for (int bits = 60; bits <= 68; bits++) {
                check.same("some of " + bits + " bits", seen[bits] ? 1 : 0, 1);
            }
        });
    }

    private void crossing() {
        check.sentence("18: The least j such that .. behind some of its steps, has taken just i letters of A and j of B",
                () -> {
            RowAligner x = Rows.of("abcd", "abxxcd");
            x.scores(9, -9);
            x.whole(0);
            check.same("the least before a gap of B", Rows.crossings(x), "0 1 2 5 6");
            RowAligner first = Rows.of("ab", "xxab");
            first.whole(0);
            check.same("behind no step", first.crossing(0), 0);
            RowAligner ofA = Rows.of("aaa", "");
            ofA.whole(0);
            check.same("where B is empty", Rows.crossings(ofA), "0 0 0 0");
            RowAligner ofB = Rows.of("", "aaa");
            ofB.whole(0);
            check.same("where A is empty", Rows.crossings(ofB), "0");
            RowAligner none = new RowAligner();
            none.whole(0);
            check.same("where both are", Rows.crossings(none), "0");
            RowAligner full = Rows.of("a".repeat(96), "a".repeat(96));
            full.whole(0);
            for (int i = 0; i <= 96; i++) {
                check.same("crossing(" + i + ") of 96", full.crossing(i), i);
            }
            RowAligner last = Rows.of("ab", "abxx");
            last.whole(0);
            check.same("the last letter of A before B's last gap", last.crossing(2), 2);
        });
        check.sentence("18: some WHOLE laying of the greatest worth (not just THE BEST one)", () -> {
            RowAligner x = Rows.of("aaaa", "aa");
            x.whole(0);
            check.same("the best one", Rows.steps(x), "0011");
            check.same("crossings", Rows.crossings(x), "0 0 0 1 2");
            x.whole(4);
            check.same("of one best laying alone", Rows.crossings(x), "0 1 2 2 2");
            x.whole(1);
            check.same("of another one", Rows.crossings(x), "0 0 0 1 2");
            RowAligner y = Rows.of("ab", "ba");
            y.costs(0, 0);
            y.whole(0);
            check.same("the best one", Rows.steps(y), "102");
            check.same("crossings", Rows.crossings(y), "0 0 1");
            RowAligner z = Rows.of("aa", "aaaa");
            z.whole(0);
            check.same("the best one has the least", Rows.crossings(z), "0 1 2");
            z.whole(2);
            check.same("with B's start free", Rows.crossings(z), "0 3 4");
            z.whole(10);
            check.same("with B's ends free", Rows.crossings(z), "0 1 2");
        });
        check.sentence("18: -1 if the latest laying was of PARTS", () -> {
            RowAligner x = Rows.of("abc", "abc");
            x.parts();
            check.same("crossings of parts", Rows.crossings(x), "-1 -1 -1 -1");
            x.whole(0);
            check.same("crossings of whole, behind parts", Rows.crossings(x), "0 1 2 3");
            x.parts();
            check.same("crossings of parts, behind whole", Rows.crossings(x), "-1 -1 -1 -1");
            RowAligner none = new RowAligner();
            none.parts();
            check.same("crossing(0) of parts of nothing", none.crossing(0), -1);
        });
    }

    private void wrongCrossing() {
        check.sentence("18: IndexOutOfBoundsException: i is not 0 .. as many letters as A has", () -> {
            for (int n : new int[] {0, 1, 3, 96}) {
                RowAligner x = Rows.of("a".repeat(n), "aaaaaaa");
                for (int time = 0; time < 2; time++) {
                    int worth = time == 0 ? x.whole(0) : x.parts();
                    check.same("crossing(" + n + ") at a worth of " + worth, x.crossing(n), time == 0 ? due(n) : -1);
                    check.outOfBounds("crossing(" + (n + 1) + ")", () -> x.crossing(n + 1));
                    for (int i : FAR_OFF) {
                        check.outOfBounds("crossing(" + i + ")", () -> x.crossing(i));
                    }
                }
            }
        });
        check.sentence("18: IllegalStateException (first, if nothing was laid).", () -> {
            RowAligner x = Rows.of("ab", "ab");
            for (int i : new int[] {0, 2, 3, -1, 97, Integer.MIN_VALUE, Integer.MAX_VALUE}) {
                check.badState("crossing(" + i + ") before", () -> x.crossing(i));
            }
            x.whole(0);
            x.crossing(1);
            x.turn(1);
            for (int i : new int[] {0, 2, 3, -1, 97, Integer.MIN_VALUE, Integer.MAX_VALUE}) {
                check.badState("crossing(" + i + ") behind a change", () -> x.crossing(i));
            }
        });
    }

    /** Of n a's beside seven: as soon as all the a's of A are taken, as few of B's as can be. */
    private static int due(int n) {
        return n > 7 ? 7 : n;
    }
}
