/** Promises 19 to 21: a test of its own for each sentence of the document that names a boundary case. */
public final class DraftEdgesTest {
    private static final int NO_LAYING = -1000000;

    private final Check check = new Check("DraftEdgesTest");

    public static void main(String[] args) {
        DraftEdgesTest test = new DraftEdgesTest();
        test.draw();
        test.wipe();
        test.worth();
        test.noLaying();
        test.check.end();
    }

    private void draw() {
        check.sentence("19: A step more behind the DRAFT: how many it has.", () -> {
            for (int step = 0; step < 3; step++) {
                RowAligner x = new RowAligner();
                for (int k = 1; k <= 200; k++) {
                    check.same("draw(" + step + ") as step " + k, x.draw(step), k);
                }
            }
            RowAligner y = Rows.of("ab", "b");
            y.draw(1);
            y.draw(0);
            check.same("one behind the other", y.worth(0), 1 - 4);
            y.wipe();
            y.draw(0);
            y.draw(1);
            check.same("the other way round", y.worth(0), -1 - 4);
        });
        check.sentence("19: IllegalArgumentException: it is none", () -> {
            RowAligner x = Rows.of("a", "a");
            for (int step : new int[] {-1, 3, 4, 256, 65536, Integer.MIN_VALUE, Integer.MAX_VALUE}) {
                check.badArgument("draw(" + step + ")", () -> x.draw(step));
            }
            check.same("draw(0), as the first one", x.draw(0), 1);
            check.same("its worth", x.worth(0), 1);
        });
        check.sentence("19: IllegalStateException: there would be more than 200.", () -> {
            RowAligner x = Rows.of("a", "");
            x.draw(1);
            for (int k = 2; k <= 200; k++) {
                x.draw(k % 3);
            }
            for (int step = 0; step < 3; step++) {
                int s = step;
                check.badState("draw(" + s + ") behind 200", () -> x.draw(s));
            }
            check.same("wipe()", x.wipe(), 200);
            check.same("draw(1), with room again", x.draw(1), 1);
            check.same("its worth", x.worth(0), -4);
        });
    }

    private void wipe() {
        check.sentence("20: The DRAFT is empty: how many steps it had.", () -> {
            RowAligner x = Rows.of("a", "a");
            check.same("of none", x.wipe(), 0);
            for (int steps : new int[] {1, 2, 199, 200}) {
                RowAligner y = new RowAligner();
                Rows.draw(y, "1".repeat(steps));
                check.same("of " + steps, y.wipe(), steps);
                check.same("of none then", y.wipe(), 0);
                check.same("worth(0): no steps lay two empty rows", y.worth(0), 0);
                check.same("draw(2) as the first one", y.draw(2), 1);
            }
            x.draw(1);
            x.draw(2);
            x.wipe();
            check.same("an empty draft is no laying of a and a", x.worth(0), NO_LAYING);
            x.whole(0);
            x.wipe();
            check.same("a laying is not wiped", Rows.steps(x), "0");
            check.same("rows are not wiped", x.size(0) + x.size(1), 2);
        });
    }

    private void worth() {
        check.sentence("21: The worth of the DRAFT as a WHOLE laying with FREE ends", () -> {
            check.same("of nothing", new RowAligner().worth(15), 0);
            RowAligner x = Rows.of("a".repeat(96), "b".repeat(96));
            Rows.draw(x, "12".repeat(96));
            x.costs(512, 512);
            check.same("the least there is", x.worth(0), -192 * 1024);
            check.same("the least with all ends free", x.worth(15), -190 * 1024);
            Rows.draw(x, "0".repeat(96));
            x.scores(-512, 512);
            check.same("the greatest there is", x.worth(0), 49152);
            RowAligner y = Rows.of("a".repeat(96), "b".repeat(96));
            Rows.draw(y, "2".repeat(96) + "1".repeat(96));
            int[] due = {-198, -198, -99, -99, -99, -99, 0, 0, -198, -198, -99, -99, -99, -99, 0, 0};
            for (int free = 0; free < 16; free++) {
                check.same("two gaps of 96 with " + free, y.worth(free), due[free]);
            }
            y.cut(0, 0);
            Rows.draw(y, "2".repeat(96));
            check.same("a gap of 96 with all free", y.worth(15), 0);
            check.same("a gap of 96 of B with A's ends free", y.worth(5), -99);
        });
        check.sentence("21: .. (the DRAFT is worth what rows, scores and costs are now)", () -> {
            RowAligner x = Rows.of("ab", "ab");
            Rows.draw(x, "001");
            check.same("before A has a letter more", x.worth(0), NO_LAYING);
            x.type(0, 'c', 1);
            check.same("with it", x.worth(0), 2 - 4);
            x.costs(5, 6);
            check.same("at other costs", x.worth(0), 2 - 11);
            x.score(0, 0, 50);
            check.same("at another score", x.worth(0), 51 - 11);
            x.turn(0);
            check.same("with A turned", x.worth(0), 1 - 1 - 11);
            x.cut(0, 2);
            check.same("with A cut", x.worth(0), NO_LAYING);
        });
        check.sentence("21: IllegalArgumentException: free is not 0 .. 15.", () -> {
            for (int free : new int[] {-1, 16, 17, 31, 32, 256, Integer.MIN_VALUE, Integer.MAX_VALUE}) {
                RowAligner x = Rows.of("ab", "b");
                check.badArgument("worth(" + free + ") of no laying", () -> x.worth(free));
                Rows.draw(x, "10");
                check.badArgument("worth(" + free + ")", () -> x.worth(free));
                check.badArgument("worth(" + free + ") of nothing", () -> new RowAligner().worth(free));
                check.same("the draft then", x.worth(1), 1);
            }
        });
    }

    private void noLaying() {
        check.sentence("21: NO_LAYING if it is none.", () -> {
            String[] none = {"", "0", "1", "2", "00", "01", "12", "11", "22", "0012", "0000", "1111", "222", "111",
                "001", "010", "100", "1122", "11222222", "111222", "0022", "0222", "2".repeat(200), "0".repeat(200)};
            RowAligner x = Rows.of("ab", "cde");
            for (String steps : none) {
                RowAligner y = Rows.of("ab", "cde");
                Rows.draw(y, steps);
                check.same("worth(0) of " + steps, y.worth(0), NO_LAYING);
                check.same("worth(15) of " + steps, y.worth(15), NO_LAYING);
            }
            for (String steps : new String[] {"002", "020", "200", "0122", "2210", "12212", "11222", "22211"}) {
                Rows.draw(x, steps);
                check.same("one: " + steps, x.worth(0) > NO_LAYING ? 1 : 0, 1);
            }
        });
        check.sentence("21: NO_LAYING .. (too few or too many letters of full rows)", () -> {
            RowAligner x = Rows.of("a".repeat(96), "a".repeat(96));
            Rows.draw(x, "0".repeat(95));
            check.same("95 pairs", x.worth(0), NO_LAYING);
            x.draw(0);
            check.same("96 pairs", x.worth(0), 96);
            x.draw(0);
            check.same("97 pairs", x.worth(0), NO_LAYING);
            Rows.draw(x, "1".repeat(96) + "2".repeat(95));
            check.same("191 steps", x.worth(15), NO_LAYING);
            x.draw(2);
            check.same("192 steps", x.worth(15), 0);
            x.draw(2);
            check.same("193 steps", x.worth(15), NO_LAYING);
        });
    }
}
