/** Promises 10 to 18: whole, parts, steps, step, place, count, run, ways, crossing. */
public final class LayingTest {
    public static void main(String[] args) {
        Check check = new Check("LayingTest");
        promise10Whole(check);
        promise10FreeEnds(check);
        promise10OnlyTheGapAtTheVeryEndIsFree(check);
        promise11Parts(check);
        promise11FirstOfTheBestParts(check);
        promises12And13Steps(check);
        promise14Place(check);
        promise15Count(check);
        promise16Run(check);
        promise17Ways(check);
        promise18Crossing(check);
        promise18CrossingBesideTheBest(check);
        check.end();
    }

    private static void due(Check check, String what, RowAligner x, int got, int worth, String steps, long ways) {
        check.same(what + ": its worth", got, worth);
        check.same(what + ": its steps", Rows.steps(x), steps);
        check.same(what + ": its ways", x.ways(), ways);
    }

    private static void promise10Whole(Check check) {
        RowAligner x = Rows.of("kitten", "sitting");
        due(check, "kitten, sitting", x, x.whole(0), -2, "0000002", 1);
        RowAligner empty = new RowAligner();
        due(check, "nothing", empty, empty.whole(15), 0, "", 1);
        RowAligner one = Rows.of("aaa", "");
        due(check, "only A", one, one.whole(0), -6, "111", 1);
        RowAligner other = Rows.of("", "aaa");
        due(check, "only B", other, other.whole(0), -6, "222", 1);
        RowAligner tied = Rows.of("ab", "ba");
        tied.costs(0, 0);
        due(check, "the less step first", tied, tied.whole(0), 1, "102", 2);
        RowAligner apart = Rows.of("a", "b");
        apart.costs(1, 0);
        apart.scores(1, -2);
        due(check, "pair first", apart, apart.whole(0), -2, "0", 3);
        apart.scores(1, -3);
        due(check, "ONE before OTHER", apart, apart.whole(0), -2, "12", 2);
        for (int free : new int[] {-1, 16, Integer.MIN_VALUE, Integer.MAX_VALUE}) {
            check.badArgument("whole(" + free + ")", () -> apart.whole(free));
        }
        check.same("the laying after a refused one", Rows.steps(apart), "12");
    }

    private static void promise10FreeEnds(Check check) {
        RowAligner x = Rows.of("xxab", "ab");
        due(check, "A's start not free", x, x.whole(0), -3, "1100", 1);
        due(check, "A's start free", x, x.whole(1), 2, "1100", 1);
        x.turn(0);
        x.turn(1);
        due(check, "A's end free", x, x.whole(4), 2, "0011", 1);
        due(check, "A's start and B's end free", x, x.whole(1 + 8), 0, "111122", 1);
        due(check, "only B's ends free", x, x.whole(2 + 8), -3, "0011", 1);
        RowAligner y = Rows.of("ab", "xxab");
        due(check, "B's start free", y, y.whole(2), 2, "2200", 1);
        check.same("B's start with A's", y.whole(3), 2);
        check.same("A's start alone", y.whole(1), -3);
        y.turn(0);
        y.turn(1);
        due(check, "B's end free", y, y.whole(8), 2, "0022", 1);
        check.same("A's end alone", y.whole(4), -3);
        RowAligner z = Rows.of("xxab", "abyy");
        due(check, "A's start and B's end", z, z.whole(9), 2, "110022", 1);
        RowAligner single = Rows.of("aaaa", "");
        check.same("a gap that is all, as the start", single.whole(1), 0);
        check.same("a gap that is all, as the end", single.whole(4), 0);
        check.same("a gap that is all, as both", single.whole(5), 0);
        check.same("a gap that is all, of A", single.whole(10), -7);
        single.cut(0, 0);
        Rows.type(single, 1, "aaa");
        check.same("a gap of B that is all, as the start", single.whole(2), 0);
        check.same("a gap of B that is all, as the end", single.whole(8), 0);
        check.same("a gap of B that is all", single.whole(5), -6);
    }

    private static void promise10OnlyTheGapAtTheVeryEndIsFree(Check check) {
        RowAligner x = Rows.of("ab", "cd");
        x.scores(1, -512);
        due(check, "a gap of A and one of B, the first free", x, x.whole(3), -5, "1122", 2);
        due(check, "a gap of A and one of B, the last free", x, x.whole(12), -5, "1122", 2);
        due(check, "a gap of A and one of B, both free", x, x.whole(9), 0, "1122", 1);
        due(check, "a gap of B and one of A, both free", x, x.whole(6), 0, "2211", 1);
        due(check, "both ways, all free", x, x.whole(15), 0, "1122", 2);
    }

    private static void promise11Parts(Check check) {
        RowAligner x = Rows.of("xxhelloyy", "zhellozz");
        due(check, "hello", x, x.parts(), 5, "00000", 1);
        check.same("where hello is", Rows.places(x), "2..7 1..6");
        RowAligner empty = new RowAligner();
        due(check, "parts of nothing", empty, empty.parts(), 0, "", 1);
        RowAligner none = Rows.of("abc", "xyz");
        due(check, "parts that have nothing in common", none, none.parts(), 0, "", 16);
        check.same("where nothing is", Rows.places(none), "0..0 0..0");
        RowAligner gap = Rows.of("abcdefgh", "abcdxefgh");
        due(check, "parts with a gap", gap, gap.parts(), 4, "0000", 3);
        gap.scores(2, -9);
        due(check, "parts with a gap that pays", gap, gap.parts(), 12, "000020000", 1);
        RowAligner free = Rows.of("aaxx", "yyaa");
        free.whole(15);
        due(check, "nothing is free in parts", free, free.parts(), 2, "00", 1);
    }

    private static void promise11FirstOfTheBestParts(Check check) {
        RowAligner x = Rows.of("abzzzab", "qabqqqqab");
        due(check, "four of the same worth", x, x.parts(), 2, "00", 4);
        check.same("the least p, then the least q", Rows.places(x), "0..2 1..3");
        RowAligner p = Rows.of("bxa", "ayb");
        due(check, "two of the same worth", p, p.parts(), 1, "0", 2);
        check.same("p goes before q", Rows.places(p), "0..1 2..3");
        RowAligner early = Rows.of("xa", "a");
        early.costs(0, 0);
        due(check, "a gap for nothing makes p less", early, early.parts(), 1, "10", 2);
        check.same("where it begins", Rows.places(early), "0..2 0..1");
        RowAligner end = Rows.of("ax", "a");
        end.costs(0, 0);
        due(check, "it ends before it goes on for nothing", end, end.parts(), 1, "0", 2);
        RowAligner zero = Rows.of("aab", "ba");
        zero.scores(0, 0);
        check.same("nothing is worth anything", zero.parts(), 0);
        check.same("the first of them has no step", Rows.steps(zero), "");
        check.same("and lies here", Rows.places(zero), "0..0 0..0");
    }

    private static void promises12And13Steps(Check check) {
        RowAligner x = Rows.of("aabb", "ab");
        check.badState("steps() before", () -> x.steps());
        check.badState("step(0) before", () -> x.step(0));
        check.badState("step(-1) before", () -> x.step(-1));
        x.costs(0, 1);
        x.whole(0);
        check.same("steps()", x.steps(), 4);
        check.same("step(0)", x.step(0), 0);
        check.same("step(1)", x.step(1), 1);
        check.same("step(2)", x.step(2), 0);
        check.same("step(3)", x.step(3), 1);
        for (int i : new int[] {-1, 4, Integer.MIN_VALUE, Integer.MAX_VALUE}) {
            check.outOfBounds("step(" + i + ")", () -> x.step(i));
        }
        x.parts();
        check.same("steps() of parts", x.steps(), 2);
        check.same("step(1) of parts", x.step(1), 0);
        check.outOfBounds("step(2) of parts", () -> x.step(2));
        x.whole(0);
        check.same("steps() again", x.steps(), 4);
    }

    private static void promise14Place(Check check) {
        RowAligner x = Rows.of("qqabc", "abcrr");
        check.badState("place(0, false) before", () -> x.place(0, false));
        check.badState("place(1, true) before", () -> x.place(1, true));
        check.outOfBounds("place(2, true) before", () -> x.place(2, true));
        x.parts();
        check.same("places of parts", Rows.places(x), "2..5 0..3");
        x.whole(0);
        check.same("places of whole", Rows.places(x), "0..5 0..5");
        check.outOfBounds("place(2, false)", () -> x.place(2, false));
        check.outOfBounds("place(-1, true)", () -> x.place(-1, true));
        RowAligner y = Rows.of("abcdefgh", "zabcdxefgh");
        y.scores(2, -9);
        y.parts();
        check.same("places with a gap", Rows.places(y), "0..8 1..10");
    }

    private static void promise15Count(Check check) {
        RowAligner x = Rows.of("xxab", "abyy");
        check.badState("count(0) before", () -> x.count(0));
        check.badState("count(3) before", () -> x.count(3));
        check.badArgument("count(4) before", () -> x.count(4));
        x.whole(9);
        check.same("counts", Rows.counts(x), "3 2 2 4");
        x.whole(0);
        check.same("counts of pairs alone", Rows.counts(x), "1 0 0 0");
        x.scores(-5, -512);
        x.costs(0, 0);
        x.whole(0);
        check.same("counts of two gaps side by side", Rows.counts(x), "2 0 2 8");
        x.scores(0, 5);
        x.whole(0);
        check.same("pairs of others are not the same", Rows.counts(x), "1 0 0 0");
        check.badArgument("count(4)", () -> x.count(4));
        check.badArgument("count(-1)", () -> x.count(-1));
        RowAligner part = Rows.of("zzab", "ab");
        part.parts();
        check.same("counts of parts", Rows.counts(part), "1 2 0 0");
        RowAligner low = Rows.of("aa", "aa");
        low.scores(-1, 0);
        low.whole(0);
        check.same("the same letters at a bad score", Rows.counts(low), "1 2 0 0");
        RowAligner empty = new RowAligner();
        empty.whole(0);
        check.same("counts of nothing", Rows.counts(empty), "0 0 0 0");
    }

    private static void promise16Run(Check check) {
        RowAligner x = Rows.of("xxxab", "abyy");
        check.badState("run(0, 0) before", () -> x.run(0, 0));
        check.badState("run(-1, 1) before", () -> x.run(-1, 1));
        check.badArgument("run(-1, 2) before", () -> x.run(-1, 2));
        x.whole(9);
        check.same("runs", Rows.runs(x), "1x3 0x2 2x2");
        for (int i : new int[] {-1, 3, Integer.MIN_VALUE, Integer.MAX_VALUE}) {
            check.outOfBounds("run(" + i + ", 0)", () -> x.run(i, 0));
            check.outOfBounds("run(" + i + ", 1)", () -> x.run(i, 1));
        }
        check.badArgument("run(0, 2)", () -> x.run(0, 2));
        check.badArgument("run(0, -1)", () -> x.run(0, -1));
        check.badArgument("run(9, 2)", () -> x.run(9, 2));
        x.parts();
        check.same("runs of parts", Rows.runs(x), "0x2");
        check.outOfBounds("run(1, 0) of parts", () -> x.run(1, 0));
    }

    private static void promise17Ways(Check check) {
        RowAligner x = Rows.of("aaaa", "aa");
        check.badState("ways() before", () -> x.ways());
        x.whole(0);
        check.same("ways of whole(0)", x.ways(), 3);
        check.same("ways asked again", x.ways(), 3);
        x.whole(1);
        check.same("ways of whole(1)", x.ways(), 1);
        x.whole(5);
        check.same("ways of whole(5)", x.ways(), 3);
        x.parts();
        check.same("ways of parts", x.ways(), 3);
        x.costs(0, 0);
        x.whole(0);
        check.same("ways for nothing", x.ways(), 6);
        x.scores(0, 0);
        x.whole(0);
        check.same("ways if all is one", x.ways(), 41);
        x.parts();
        check.same("ways of parts if all is one", x.ways(), 310);
        x.cut(1, 0);
        x.parts();
        check.same("ways of parts of A alone", x.ways(), 15);
        x.costs(0, 1);
        x.parts();
        check.same("ways without a letter", x.ways(), 5);
    }

    private static void promise18Crossing(Check check) {
        RowAligner x = Rows.of("abcd", "abxcd");
        check.badState("crossing(0) before", () -> x.crossing(0));
        check.badState("crossing(-1) before", () -> x.crossing(-1));
        x.whole(0);
        check.same("crossings", Rows.crossings(x), "0 1 2 4 5");
        for (int i : new int[] {-1, 5, Integer.MIN_VALUE, Integer.MAX_VALUE}) {
            check.outOfBounds("crossing(" + i + ")", () -> x.crossing(i));
        }
        x.parts();
        check.same("crossings of parts", Rows.crossings(x), "-1 -1 -1 -1 -1");
        check.outOfBounds("crossing(5) of parts", () -> x.crossing(5));
        check.outOfBounds("crossing(-1) of parts", () -> x.crossing(-1));
        RowAligner start = Rows.of("ab", "xxab");
        start.whole(2);
        check.same("crossing(0) behind no step", Rows.crossings(start), "0 3 4");
        start.whole(0);
        check.same("crossings of another laying", Rows.crossings(start), "0 3 4");
        RowAligner empty = new RowAligner();
        empty.whole(0);
        check.same("crossings of nothing", Rows.crossings(empty), "0");
        check.outOfBounds("crossing(1) of nothing", () -> empty.crossing(1));
    }

    private static void promise18CrossingBesideTheBest(Check check) {
        RowAligner x = Rows.of("aaaa", "aa");
        x.whole(0);
        check.same("the best one", Rows.steps(x), "0011");
        check.same("crossings of all of them", Rows.crossings(x), "0 0 0 1 2");
        x.whole(4);
        check.same("crossings with A's end free", Rows.crossings(x), "0 1 2 2 2");
        x.whole(1);
        check.same("crossings with A's start free", Rows.crossings(x), "0 0 0 1 2");
    }
}
