/** Promises 7 to 9: score, scores, costs. */
public final class PricesTest {
    public static void main(String[] args) {
        Check check = new Check("PricesTest");
        promise7Score(check);
        promise7WrongScore(check);
        promise8Scores(check);
        promise9Costs(check);
        check.end();
    }

    /** The score of one pair, as the worth of a draft of that pair tells it. */
    private static int scoreOf(RowAligner x, char ofA, char ofB) {
        x.cut(0, 0);
        x.cut(1, 0);
        Rows.type(x, 0, String.valueOf(ofA));
        Rows.type(x, 1, String.valueOf(ofB));
        Rows.draw(x, "0");
        return x.worth(0);
    }

    private static void promise7Score(Check check) {
        RowAligner x = new RowAligner();
        x.score(0, 1, 5);
        check.same("a with b", scoreOf(x, 'a', 'b'), 5);
        check.same("b with a", scoreOf(x, 'b', 'a'), -1);
        check.same("a with a", scoreOf(x, 'a', 'a'), 1);
        x.score(25, 25, -512);
        x.score(25, 0, 512);
        x.score(0, 25, 0);
        check.same("z with z", scoreOf(x, 'z', 'z'), -512);
        check.same("z with a", scoreOf(x, 'z', 'a'), 512);
        check.same("a with z", scoreOf(x, 'a', 'z'), 0);
        check.same("z with b", scoreOf(x, 'z', 'b'), -1);
        x.cut(0, 0);
        x.cut(1, 0);
        Rows.type(x, 0, "za");
        Rows.type(x, 1, "az");
        check.same("whole(0) goes by it", x.whole(0), 512);
        x.score(25, 0, -512);
        check.same("whole(0) goes by it again", x.whole(0), -7);
    }

    private static void promise7WrongScore(Check check) {
        RowAligner x = new RowAligner();
        for (int letter : new int[] {-1, 26, Integer.MIN_VALUE, Integer.MAX_VALUE}) {
            check.outOfBounds("score of " + letter + " of A", () -> x.score(letter, 0, 1));
            check.outOfBounds("score of " + letter + " of B", () -> x.score(0, letter, 1));
            check.outOfBounds("a wrong score of " + letter, () -> x.score(letter, 0, 513));
        }
        for (int v : new int[] {-513, 513, Integer.MIN_VALUE, Integer.MAX_VALUE}) {
            check.badArgument("score " + v, () -> x.score(0, 0, v));
        }
        check.same("a with a after refused scores", scoreOf(x, 'a', 'a'), 1);
    }

    private static void promise8Scores(Check check) {
        RowAligner x = new RowAligner();
        x.score(3, 4, 99);
        x.score(7, 7, 99);
        x.scores(-512, 512);
        for (char ofA = 'a'; ofA <= 'z'; ofA += 3) {
            for (char ofB = 'a'; ofB <= 'z'; ofB++) {
                RowAligner y = new RowAligner();
                y.score(ofA - 'a', ofB - 'a', 99);
                y.scores(-512, 512);
                check.same(ofA + " with " + ofB, scoreOf(y, ofA, ofB), ofA == ofB ? -512 : 512);
            }
        }
        check.badArgument("same 513", () -> x.scores(513, 0));
        check.badArgument("same -513", () -> x.scores(-513, 0));
        check.badArgument("others 513", () -> x.scores(0, 513));
        check.badArgument("others -513", () -> x.scores(0, -513));
        check.same("d with e after refused scores", scoreOf(x, 'd', 'e'), 512);
        check.same("h with h after refused scores", scoreOf(x, 'h', 'h'), -512);
        x.scores(512, -512);
        check.same("d with e at last", scoreOf(x, 'd', 'e'), -512);
        check.same("h with h at last", scoreOf(x, 'h', 'h'), 512);
    }

    private static void promise9Costs(Check check) {
        RowAligner x = Rows.of("aaaa", "");
        check.same("4 letters at first", x.whole(0), -7);
        x.costs(10, 2);
        check.same("4 letters at 10 and 2", x.whole(0), -18);
        x.costs(512, 0);
        check.same("4 letters at 512 and 0", x.whole(0), -512);
        x.costs(0, 512);
        check.same("4 letters at 0 and 512", x.whole(0), -2048);
        x.costs(0, 0);
        check.same("4 letters for nothing", x.whole(0), 0);
        for (int wrong : new int[] {-1, 513, Integer.MIN_VALUE, Integer.MAX_VALUE}) {
            check.badArgument("open " + wrong, () -> x.costs(wrong, 1));
            check.badArgument("more " + wrong, () -> x.costs(1, wrong));
        }
        check.same("4 letters after refused costs", x.whole(0), 0);
        RowAligner y = Rows.of("", "bb");
        y.costs(5, 3);
        check.same("2 letters of B at 5 and 3", y.whole(0), -11);
    }
}
