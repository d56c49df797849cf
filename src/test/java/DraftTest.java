/** Promises 19 to 21: draw, wipe, worth. */
public final class DraftTest {
    public static void main(String[] args) {
        Check check = new Check("DraftTest");
        promise19Draw(check);
        promise20Wipe(check);
        promise21Worth(check);
        promise21WorthWithFreeEnds(check);
        promise21NoLaying(check);
        check.end();
    }

    private static void promise19Draw(Check check) {
        RowAligner x = new RowAligner();
        check.badArgument("draw(3)", () -> x.draw(3));
        check.badArgument("draw(-1)", () -> x.draw(-1));
        for (int k = 1; k <= 200; k++) {
            check.same("draw step " + k, x.draw(k % 3), k);
        }
        check.badState("draw(0) behind 200", () -> x.draw(0));
        check.badState("draw(2) behind 200", () -> x.draw(2));
        check.badArgument("draw(3) behind 200", () -> x.draw(3));
        check.same("wipe() of 200", x.wipe(), 200);
        check.same("draw(1) behind none", x.draw(1), 1);
    }

    private static void promise20Wipe(Check check) {
        RowAligner x = Rows.of("a", "a");
        check.same("wipe() of nothing", x.wipe(), 0);
        x.draw(1);
        x.draw(1);
        check.same("wipe() of two", x.wipe(), 2);
        check.same("wipe() again", x.wipe(), 0);
        x.draw(0);
        check.same("worth of what was drawn behind a wipe", x.worth(0), 1);
        x.wipe();
        x.cut(0, 0);
        x.cut(1, 0);
        check.same("worth of nothing", x.worth(0), 0);
    }

    private static void promise21Worth(Check check) {
        RowAligner x = Rows.of("abcd", "abd");
        Rows.draw(x, "0010");
        check.same("worth of 0010", x.worth(0), -1);
        Rows.draw(x, "0001");
        check.same("worth of 0001", x.worth(0), -3);
        Rows.draw(x, "1111222");
        check.same("worth of 1111222", x.worth(0), -13);
        Rows.draw(x, "1212121");
        check.same("worth of 1212121", x.worth(0), -28);
        x.costs(2, 7);
        check.same("worth at other costs", x.worth(0), -63);
        Rows.draw(x, "0010");
        x.score(0, 0, 100);
        x.score(1, 1, -50);
        check.same("worth at other scores", x.worth(0), 42);
        check.badState("steps(): a draft is not laid", () -> x.steps());
        check.badArgument("worth(16)", () -> x.worth(16));
        check.badArgument("worth(-1)", () -> x.worth(-1));
        check.same("the draft stays", x.wipe(), 4);
    }

    private static void promise21WorthWithFreeEnds(Check check) {
        RowAligner x = Rows.of("abcd", "bcde");
        Rows.draw(x, "10002");
        int[] due = {-5, -1, -5, -1, -5, -1, -5, -1, -1, 3, -1, 3, -1, 3, -1, 3};
        for (int free = 0; free < 16; free++) {
            check.same("worth of 10002 with " + free, x.worth(free), due[free]);
        }
        Rows.draw(x, "20001");
        int[] turned = {-11, -11, -7, -7, -7, -7, -3, -3, -11, -11, -7, -7, -7, -7, -3, -3};
        for (int free = 0; free < 16; free++) {
            check.same("worth of 20001 with " + free, x.worth(free), turned[free]);
        }
        Rows.draw(x, "12121212");
        check.same("only the gaps at the ends are free", x.worth(15), -24);
        Rows.draw(x, "01221012");
        check.same("a gap within is not free", x.worth(15), -1000000);
        Rows.draw(x, "012120");
        check.same("gaps within are not free", x.worth(15), -18);
        RowAligner one = Rows.of("aaa", "");
        Rows.draw(one, "111");
        for (int free = 0; free < 16; free++) {
            check.same("worth of 111 with " + free, one.worth(free), (free & 5) != 0 ? 0 : -6);
        }
        RowAligner other = Rows.of("", "aa");
        Rows.draw(other, "22");
        for (int free = 0; free < 16; free++) {
            check.same("worth of 22 with " + free, other.worth(free), (free & 10) != 0 ? 0 : -5);
        }
    }

    private static void promise21NoLaying(Check check) {
        RowAligner x = Rows.of("ab", "abc");
        String[] wrong = {"", "0", "00", "0022", "0021", "000", "12", "11", "222", "1112", "222111"};
        for (String steps : wrong) {
            Rows.draw(x, steps);
            check.same("worth of " + steps, x.worth(0), -1000000);
            check.same("worth of " + steps + " with all free", x.worth(15), -1000000);
        }
        Rows.draw(x, "002");
        check.same("worth of 002", x.worth(0), -2);
        x.cut(1, 2);
        check.same("worth of 002 when B is cut", x.worth(0), -1000000);
        Rows.draw(x, "2".repeat(200));
        check.same("worth of 200 steps", x.worth(0), -1000000);
        RowAligner full = Rows.of("a".repeat(96), "b".repeat(96));
        Rows.draw(full, "12".repeat(96));
        full.costs(512, 512);
        check.same("the least worth there can be", full.worth(0), -192 * 1024);
        Rows.draw(full, "1".repeat(96) + "2".repeat(96));
        check.same("two gaps of 96", full.worth(0), -2 * (512 + 96 * 512));
    }
}
