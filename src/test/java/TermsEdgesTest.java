/** 'What it is' and 'Terms': a test of its own for each sentence that names a boundary case, but for its refusals. */
public final class TermsEdgesTest {
    private final Check check = new Check("TermsEdgesTest");

    public static void main(String[] args) {
        TermsEdgesTest test = new TermsEdgesTest();
        test.calls();
        test.lettersScoresAndCosts();
        test.steps();
        test.wholeAndFree();
        test.freeEndsOfGapsAlone();
        test.parts();
        test.best();
        test.firstBySteps();
        test.constants();
        test.check.end();
    }

    private void calls() {
        check.sentence("An object is used for at most 512 calls after it has been made", () -> {
            RowAligner x = Rows.of("a".repeat(96), "a".repeat(96));
            for (int call = 25; call <= 224; call++) {
                check.same("call " + call + ", draw", x.draw(call % 3), call - 24);
            }
            for (int call = 225; call <= 509; call += 3) {
                int free = call % 16;
                check.same("call " + call + ", whole", x.whole(free), 96);
                check.same("the next call, ways", x.ways(), 1);
                check.same("the next call, crossing", x.crossing(call % 97), call % 97);
            }
            check.same("call 510, parts", x.parts(), 96);
            check.same("call 511, step", x.step(95), 0);
            check.same("call 512, wipe", x.wipe(), 200);
        });
    }

    private void lettersScoresAndCosts() {
        check.sentence("ROWS A and B have at most 96 LETTERS each, a .. z (0 .. 25).", () -> {
            RowAligner x = Rows.of("az".repeat(48), "za".repeat(48));
            check.same("A has", x.size(0), 96);
            check.same("B has", x.size(1), 96);
            check.same("the first letter of A", x.letter(0, 0), 0);
            check.same("the last letter of A", x.letter(0, 95), 25);
            check.same("the first letter of B", x.letter(1, 0), 25);
            check.same("the last letter of B", x.letter(1, 95), 0);
            check.badState("one letter more in A", () -> x.type(0, 'a', 1));
            check.badState("one letter more in B", () -> x.type(1, 'a', 1));
        });
        check.sentence("The SCORE of a pair of letters .. is 1 if they are the same, else -1", () -> {
            for (int a = 0; a < 26; a++) {
                for (int b = 0; b < 26; b++) {
                    RowAligner x = new RowAligner();
                    x.type(0, 97 + a, 1);
                    x.type(1, 97 + b, 1);
                    check.same("letters " + a + " and " + b, x.whole(0), a == b ? 1 : -1);
                }
            }
        });
        check.sentence("x of A and y of B .. unless it is told otherwise", () -> {
            RowAligner x = Rows.of("ab", "bc");
            x.score(1, 0, 20);
            check.same("b of A with a of B is told", x.whole(0), -1 - 1);
            x.score(0, 1, 10);
            check.same("a of A with b of B is told", x.whole(0), 10 - 1);
            x.score(1, 2, 5);
            check.same("b of A with c of B is told", x.whole(0), 10 + 5);
        });
        check.sentence("A GAP of k letters costs OPEN + k * MORE (3 and 1 at first).", () -> {
            for (int k = 1; k <= 96; k++) {
                RowAligner x = Rows.of("g".repeat(k), "");
                check.same(k + " letters of A at first", x.whole(0), -3 - k);
                x.costs(11, 512);
                check.same(k + " letters of A at 11 and 512", x.whole(0), -11 - k * 512);
                RowAligner y = Rows.of("", "g".repeat(k));
                check.same(k + " letters of B at first", y.whole(0), -3 - k);
                y.costs(512, 0);
                check.same(k + " letters of B at 512 and 0", y.whole(0), -512);
            }
        });
    }

    private void steps() {
        check.sentence("0 PAIR takes the next letter of A and that of B; 1 ONE the next one of A alone;"
                + " 2 OTHER the next one of B alone.", () -> {
            RowAligner x = Rows.of("qabr", "asbt");
            x.scores(100, -100);
            check.same("whole(0)", x.whole(0), 200 - 4 - 4 - 4 - 4);
            check.same("its steps", Rows.steps(x), "102012");
            check.same("its crossings", Rows.crossings(x), "0 0 1 3 3");
            check.same("its pairs", x.count(1), 2);
        });
        check.sentence("It takes letters one behind the other, all those of its parts of A and B.", () -> {
            RowAligner x = Rows.of("abqcd", "abcd");
            x.scores(10, -10);
            check.same("parts() with a letter of A left out", x.parts(), 40 - 4);
            check.same("its steps", Rows.steps(x), "00100");
            check.same("its places", Rows.places(x), "0..5 0..4");
            x.cut(0, 0);
            Rows.type(x, 0, "dcba");
            check.same("letters do not change places", x.parts(), 10);
        });
        check.sentence("A GAP is a row of steps ONE, as long as can be, or a row of steps OTHER.", () -> {
            RowAligner x = Rows.of("ab", "cd");
            Rows.draw(x, "1122");
            check.same("two gaps of two", x.worth(0), -10);
            Rows.draw(x, "1212");
            check.same("four gaps of one", x.worth(0), -16);
            Rows.draw(x, "1221");
            check.same("a gap of B between two of A", x.worth(0), -13);
            x.scores(-512, -512);
            check.same("whole(0) with gaps alone", x.whole(0), -10);
            check.same("its gaps", x.count(2), 2);
            x.costs(0, 0);
            x.whole(0);
            check.same("gaps side by side are two", x.count(2), 2);
        });
        check.sentence("Its WORTH is the sum of the scores of its pairs less the costs of its gaps.", () -> {
            RowAligner none = new RowAligner();
            check.same("no pair and no gap", none.whole(0), 0);
            RowAligner x = Rows.of("a".repeat(96), "a".repeat(96));
            x.scores(512, -512);
            check.same("96 pairs at 512", x.whole(0), 49152);
            x.scores(-512, 512);
            x.costs(512, 512);
            check.same("96 pairs at -512", x.whole(0), -49152);
            RowAligner two = Rows.of("a".repeat(96), "b".repeat(96));
            two.scores(0, -512);
            two.costs(0, 255);
            check.same("two gaps of 96 letters at 255", two.whole(0), -2 * 96 * 255);
            two.costs(0, 256);
            check.same("pairs and gaps are worth the same", two.whole(0), -49152);
            check.same("pairs are first", Rows.steps(two), "0".repeat(96));
        });
    }

    private void wholeAndFree() {
        check.sentence("WHOLE it takes all of A and all of B", () -> {
            for (int n : new int[] {0, 1, 2, 95, 96}) {
                for (int m : new int[] {0, 1, 2, 95, 96}) {
                    RowAligner x = Rows.of("a".repeat(n), "a".repeat(m));
                    int apart = Math.abs(n - m);
                    int pairs = Math.min(n, m);
                    check.same("whole(0) of " + n + ", " + m, x.whole(0), pairs - (apart == 0 ? 0 : 3 + apart));
                    check.same("whole(15) of " + n + ", " + m, x.whole(15), pairs);
                    check.same("its places", Rows.places(x), "0.." + n + " 0.." + m);
                    check.same("its steps", x.steps(), Math.max(n, m));
                }
            }
        });
        check.sentence("with 1 the gap of A's letters .. at which it begins costs nothing", () ->
                freeAlone(1, "qqqaa", "aa", "11100"));
        check.sentence("with 2 that of B's at which it begins costs nothing", () ->
                freeAlone(2, "aa", "qqqaa", "22200"));
        check.sentence("with 4 that of A's .. at which it ends", () ->
                freeAlone(4, "aaqqq", "aa", "00111"));
        check.sentence("with 8 that of B's at which it ends", () ->
                freeAlone(8, "aa", "aaqqq", "00222"));
        check.sentence("(put together)", () -> {
            RowAligner x = Rows.of("qqqaarrrr", "aa");
            RowAligner y = Rows.of("aa", "qqqaarrrr");
            RowAligner z = Rows.of("qqqaa", "aarrrr");
            RowAligner w = Rows.of("aarrrr", "qqqaa");
            Rows.draw(x, "111001111");
            Rows.draw(y, "222002222");
            Rows.draw(z, "111002222");
            Rows.draw(w, "222001111");
            for (int free = 0; free < 16; free++) {
                check.same("A's ends with " + free, x.worth(free), 2 - paid(free, 1, 6) - paid(free, 4, 7));
                check.same("B's ends with " + free, y.worth(free), 2 - paid(free, 2, 6) - paid(free, 8, 7));
                check.same("A's, B's with " + free, z.worth(free), 2 - paid(free, 1, 6) - paid(free, 8, 7));
                check.same("B's, A's with " + free, w.worth(free), 2 - paid(free, 2, 6) - paid(free, 4, 7));
            }
            check.same("whole(5)", x.whole(5), 2);
            check.same("whole(10)", y.whole(10), 2);
            check.same("whole(9)", z.whole(9), 2);
            check.same("whole(6)", w.whole(6), 2);
        });
        check.sentence("the gap .. at which it begins .. at which it ends (a gap that is all)", () -> {
            RowAligner x = Rows.of("abc", "");
            RowAligner y = Rows.of("", "abcd");
            Rows.draw(x, "111");
            Rows.draw(y, "2222");
            for (int free = 0; free < 16; free++) {
                int ofA = (free & 5) == 0 ? -6 : 0;
                int ofB = (free & 10) == 0 ? -7 : 0;
                check.same("whole(" + free + ") of A alone", x.whole(free), ofA);
                check.same("worth(" + free + ") of A alone", x.worth(free), ofA);
                check.same("whole(" + free + ") of B alone", y.whole(free), ofB);
                check.same("worth(" + free + ") of B alone", y.worth(free), ofB);
                check.same("ways of either", x.ways() + y.ways(), 2);
            }
        });
    }

    private static int paid(int free, int end, int cost) {
        return (free & end) != 0 ? 0 : cost;
    }

    /** The gap at that end is free with this bit, whatever the others are, and with no other bit. */
    private void freeAlone(int bit, String a, String b, String steps) {
        RowAligner x = Rows.of(a, b);
        Rows.draw(x, steps);
        for (int free = 0; free < 16; free++) {
            check.same("worth(" + free + ")", x.worth(free), (free & bit) != 0 ? 2 : 2 - 3 - 3);
        }
        check.same("whole(" + bit + ")", x.whole(bit), 2);
        check.same("its steps", Rows.steps(x), steps);
        check.same("whole with all others free", x.whole(15 - bit) < 2 ? 1 : 0, 1);
    }

    /** No pair pays here, so the best laying is of gaps alone, of which only the first and the last can be free. */
    private void freeEndsOfGapsAlone() {
        check.sentence("at which it begins .. at which it ends (a gap behind the first, before the last is not)", () -> {
            RowAligner x = Rows.of("ab", "cd");
            x.scores(1, -512);
            for (int free = 0; free < 16; free++) {
                int oneOther = paid(free, 1, 5) + paid(free, 8, 5);
                int otherOne = paid(free, 2, 5) + paid(free, 4, 5);
                int oneBothSides = paid(free, 1, 4) + 5 + paid(free, 4, 4);
                int otherBothSides = paid(free, 2, 4) + 5 + paid(free, 8, 4);
                int least = Math.min(Math.min(oneOther, otherOne), Math.min(oneBothSides, otherBothSides));
                check.same("whole(" + free + ")", x.whole(free), -least);
                int ways = (oneOther == least ? 1 : 0) + (otherOne == least ? 1 : 0)
                        + (oneBothSides == least ? 1 : 0) + (otherBothSides == least ? 1 : 0);
                check.same("its ways", x.ways(), ways);
                String first = oneOther == least ? "1122" : oneBothSides == least ? "1221"
                        : otherBothSides == least ? "2112" : "2211";
                check.same("its steps", Rows.steps(x), first);
            }
        });
    }

    private void parts() {
        check.sentence("PARTS: any letters of A that stand together, and any of B, from places p and q on", () -> {
            String hidden = "klmnop";
            for (int p : new int[] {0, 1, 45, 89, 90}) {
                for (int q : new int[] {0, 1, 45, 89, 90}) {
                    RowAligner x = Rows.of("a".repeat(p) + hidden + "a".repeat(90 - p),
                            "z".repeat(q) + hidden + "z".repeat(90 - q));
                    check.same("parts() from " + p + ", " + q, x.parts(), 6);
                    check.same("its places", Rows.places(x), p + ".." + (p + 6) + " " + q + ".." + (q + 6));
                    check.same("its ways", x.ways(), 1);
                }
            }
        });
        check.sentence("(there may be none; ..)", () -> {
            for (int n : new int[] {0, 1, 96}) {
                for (int m : new int[] {0, 1, 96}) {
                    RowAligner x = Rows.of("a".repeat(n), "b".repeat(m));
                    check.same("parts() of " + n + ", " + m, x.parts(), 0);
                    check.same("its steps", x.steps(), 0);
                    check.same("its places", Rows.places(x), "0..0 0..0");
                    check.same("its ways", x.ways(), (n + 1) * (m + 1));
                }
            }
        });
        check.sentence("(..; nothing is free)", () -> {
            for (String[] rows : new String[][] {{"qa", "a"}, {"a", "qa"}, {"aq", "a"}, {"a", "aq"}}) {
                RowAligner x = Rows.of(rows[0], rows[1]);
                check.same("whole(15)", x.whole(15), 1);
                check.same("parts()", x.parts(), 1);
                check.same("its steps", Rows.steps(x), "0");
                check.same("its ways", x.ways(), 1);
                x.costs(0, 1);
                x.parts();
                check.same("its ways when a gap opens for nothing", x.ways(), 1);
                x.costs(1, 0);
                x.parts();
                check.same("its ways when a gap goes on for nothing", x.ways(), 1);
            }
        });
    }

    private void best() {
        check.sentence("The BEST one has the greatest worth", () -> {
            RowAligner x = Rows.of("ab", "ab");
            x.score(0, 0, -20);
            check.same("whole(0): gaps round the a's", x.whole(0), 1 - 4 - 4);
            check.same("its steps", Rows.steps(x), "120");
            check.same("parts(): the b's alone", x.parts(), 1);
            check.same("its places", Rows.places(x), "1..2 1..2");
            x.score(0, 0, -7);
            check.same("whole(0): all pairs", x.whole(0), 1 - 7);
            check.same("its steps then", Rows.steps(x), "00");
        });
        check.sentence("of PARTS the one with the least p", () -> {
            RowAligner x = Rows.of("qarabr", "babca");
            x.score(1, 1, 0);
            check.same("parts()", x.parts(), 1);
            check.same("its places: q is not the least", Rows.places(x), "1..2 1..2");
            RowAligner y = Rows.of("bxa", "ayyyb");
            check.same("parts()", y.parts(), 1);
            check.same("its places: p goes before q", Rows.places(y), "0..1 4..5");
        });
        check.sentence("of PARTS .. then with the least q", () -> {
            RowAligner x = Rows.of("ab", "qqabrabrab");
            check.same("parts()", x.parts(), 2);
            check.same("its places", Rows.places(x), "0..2 2..4");
            check.same("its ways", x.ways(), 3);
            RowAligner y = Rows.of("a", "xxa");
            y.costs(0, 0);
            check.same("parts() with gaps for nothing", y.parts(), 1);
            check.same("its places", Rows.places(y), "0..1 0..3");
            check.same("its steps", Rows.steps(y), "220");
        });
    }

    private void firstBySteps() {
        check.sentence("then the first by its steps: they are compared one by one, the less step first", () -> {
            RowAligner x = Rows.of("aaaa", "aa");
            x.whole(0);
            check.same("PAIR before ONE", Rows.steps(x), "0011");
            RowAligner y = Rows.of("aa", "aaaa");
            y.whole(0);
            check.same("PAIR before OTHER", Rows.steps(y), "0022");
            RowAligner z = Rows.of("ab", "ba");
            z.costs(0, 0);
            z.whole(0);
            check.same("ONE before OTHER", Rows.steps(z), "102");
            RowAligner late = Rows.of("aaba", "aabc");
            late.scores(5, -8);
            late.costs(2, 2);
            late.whole(0);
            check.same("at the last step", Rows.steps(late), "0000");
            check.same("its ways", late.ways(), 3);
            late.scores(5, -9);
            late.whole(0);
            check.same("at the last steps", Rows.steps(late), "00012");
            check.same("its ways then", late.ways(), 2);
            RowAligner begun = Rows.of("xya", "yxa");
            begun.scores(8, -1);
            begun.costs(0, 5);
            begun.whole(0);
            check.same("the first step goes before all others", Rows.steps(begun), "000");
        });
        check.sentence("one that ends where the other goes on is first", () -> {
            RowAligner x = Rows.of("aba", "aca");
            check.same("parts()", x.parts(), 1);
            check.same("its steps, not 000", Rows.steps(x), "0");
            check.same("its places", Rows.places(x), "0..1 0..1");
            check.same("its ways", x.ways(), 5);
            RowAligner y = Rows.of("aq", "ar");
            y.costs(0, 0);
            y.scores(1, 0);
            check.same("parts() with steps for nothing", y.parts(), 1);
            check.same("its steps then", Rows.steps(y), "0");
            check.same("its places then", Rows.places(y), "0..1 0..1");
            RowAligner none = Rows.of("aq", "ar");
            none.costs(0, 0);
            none.scores(0, 0);
            check.same("parts() for nothing", none.parts(), 0);
            check.same("its steps: none", none.steps(), 0);
        });
    }

    private void constants() {
        check.sentence("NO_LAYING = -1000000: The worth of a draft that is no laying of A and B.", () -> {
            check.same("NO_LAYING", RowAligner.NO_LAYING, -1000000);
            RowAligner x = Rows.of("a", "");
            check.same("worth(0) of no steps", x.worth(0), -1000000);
            x.draw(RowAligner.ONE);
            check.same("worth(0) of ONE", x.worth(0), -4);
            x.draw(RowAligner.ONE);
            check.same("worth(0) of two", x.worth(0), -1000000);
        });
    }
}
