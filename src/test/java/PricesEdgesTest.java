/** Promises 7 to 9: a test of its own for each sentence of the document that names a boundary case. */
public final class PricesEdgesTest {
    private static final int[] NO_LETTERS = {-1, 26, 27, 97, 256, Integer.MIN_VALUE, Integer.MAX_VALUE};
    private static final int[] NO_SCORES = {-513, 513, -1024, 1024, 65536, Integer.MIN_VALUE, Integer.MAX_VALUE};
    private static final int[] NO_COSTS = {-1, 513, -512, 1024, 65536, Integer.MIN_VALUE, Integer.MAX_VALUE};

    private final Check check = new Check("PricesEdgesTest");

    public static void main(String[] args) {
        PricesEdgesTest test = new PricesEdgesTest();
        test.score();
        test.wrongScore();
        test.scores();
        test.costs();
        test.check.end();
    }

    /** The score of one pair, as the worth of a draft of that pair alone tells it. */
    private static int scoreOf(RowAligner x, int ofA, int ofB) {
        x.cut(0, 0);
        x.cut(1, 0);
        x.type(0, 97 + ofA, 1);
        x.type(1, 97 + ofB, 1);
        x.wipe();
        x.draw(RowAligner.PAIR);
        return x.worth(0);
    }

    private void score() {
        check.sentence("7: The score of letter x of A with y of B.", () -> {
            for (int x = 0; x < 26; x++) {
                for (int y = 0; y < 26; y++) {
                    RowAligner told = new RowAligner();
                    told.score(x, y, 77);
                    check.same("score of " + x + " with " + y, scoreOf(told, x, y), 77);
                    int beside = (y + 1) % 26;
                    check.same("beside it", scoreOf(told, x, beside), x == beside ? 1 : -1);
                    int below = (x + 1) % 26;
                    check.same("below it", scoreOf(told, below, y), below == y ? 1 : -1);
                    if (x != y) {
                        check.same("turned round", scoreOf(told, y, x), -1);
                    }
                }
            }
        });
        check.sentence("7: .. v is .. -512 .. 512.", () -> {
            for (int v : new int[] {-512, -511, -1, 0, 1, 511, 512}) {
                RowAligner x = new RowAligner();
                x.score(0, 25, v);
                check.same("score " + v, scoreOf(x, 0, 25), v);
                check.same("whole(0) of a pair at " + v, x.whole(0), v < -8 ? -8 : v);
                check.same("parts() of a pair at " + v, x.parts(), v < 0 ? 0 : v);
            }
        });
    }

    private void wrongScore() {
        check.sentence("7: IndexOutOfBoundsException (there is no such letter)", () -> {
            for (int letter : NO_LETTERS) {
                RowAligner x = new RowAligner();
                check.outOfBounds("letter " + letter + " of A", () -> x.score(letter, 0, 5));
                check.outOfBounds("letter " + letter + " of B", () -> x.score(0, letter, 5));
                check.outOfBounds("letter " + letter + " of both", () -> x.score(letter, letter, 5));
            }
            RowAligner y = new RowAligner();
            check.outOfBounds("score(0, 26, 5)", () -> y.score(0, 26, 5));
            check.same("1 with 0 is not 0 with 26", scoreOf(y, 1, 0), -1);
            check.outOfBounds("score(1, -1, 5)", () -> y.score(1, -1, 5));
            check.same("0 with 25 is not 1 with -1", scoreOf(y, 0, 25), -1);
            check.outOfBounds("score(26, -26, 5)", () -> y.score(26, -26, 5));
            check.same("25 with 0 is not 26 with -26", scoreOf(y, 25, 0), -1);
        });
        check.sentence("7: IllegalArgumentException: v is not -512 .. 512.", () -> {
            for (int v : NO_SCORES) {
                RowAligner x = new RowAligner();
                check.badArgument("score(3, 3, " + v + ")", () -> x.score(3, 3, v));
                check.badArgument("score(3, 4, " + v + ")", () -> x.score(3, 4, v));
                check.same("d with d", scoreOf(x, 3, 3), 1);
                check.same("d with e", scoreOf(x, 3, 4), -1);
            }
        });
    }

    private void scores() {
        check.sentence("8: All scores: of the same letters, and of others.", () -> {
            for (int x = 0; x < 26; x++) {
                for (int y = 0; y < 26; y++) {
                    RowAligner told = new RowAligner();
                    told.score(x, y, 99);
                    told.scores(41, -17);
                    check.same("score of " + x + " with " + y, scoreOf(told, x, y), x == y ? 41 : -17);
                    told.score(x, y, -99);
                    check.same("told otherwise again", scoreOf(told, x, y), -99);
                }
            }
        });
        check.sentence("8: .. one is .. -512 .. 512.", () -> {
            for (int v : new int[] {-512, -511, 0, 511, 512}) {
                RowAligner x = new RowAligner();
                x.scores(v, 3);
                check.same("the same at " + v, scoreOf(x, 25, 25), v);
                check.same("others beside them", scoreOf(x, 25, 0), 3);
                x.scores(4, v);
                check.same("others at " + v, scoreOf(x, 0, 25), v);
                check.same("the same beside them", scoreOf(x, 0, 0), 4);
            }
        });
        check.sentence("8: IllegalArgumentException: one is not -512 .. 512.", () -> {
            for (int v : NO_SCORES) {
                RowAligner x = new RowAligner();
                check.badArgument("scores(" + v + ", 7)", () -> x.scores(v, 7));
                check.badArgument("scores(7, " + v + ")", () -> x.scores(7, v));
                check.badArgument("scores(" + v + ", " + v + ")", () -> x.scores(v, v));
                check.same("the same then", scoreOf(x, 8, 8), 1);
                check.same("others then", scoreOf(x, 8, 9), -1);
            }
        });
    }

    private void costs() {
        check.sentence("9: OPEN and MORE.", () -> {
            for (int open : new int[] {0, 1, 511, 512}) {
                for (int more : new int[] {0, 1, 511, 512}) {
                    RowAligner x = Rows.of("abcde", "");
                    x.costs(open, more);
                    check.same(open + " and " + more + " for A", x.whole(0), -open - 5 * more);
                    Rows.draw(x, "11111");
                    check.same("as a draft", x.worth(0), -open - 5 * more);
                    RowAligner y = Rows.of("", "a");
                    y.costs(open, more);
                    check.same(open + " and " + more + " for B", y.whole(0), -open - more);
                }
            }
        });
        check.sentence("9: IllegalArgumentException: one is not 0 .. 512.", () -> {
            for (int v : NO_COSTS) {
                RowAligner x = Rows.of("abcde", "");
                check.badArgument("costs(" + v + ", 7)", () -> x.costs(v, 7));
                check.badArgument("costs(7, " + v + ")", () -> x.costs(7, v));
                check.badArgument("costs(" + v + ", " + v + ")", () -> x.costs(v, v));
                check.same("five letters then", x.whole(0), -8);
            }
        });
    }
}
