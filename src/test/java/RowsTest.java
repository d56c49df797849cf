/** Promises 2 to 6: type, cut, turn, letter, size. */
public final class RowsTest {
    private static final String NINETY_SIX = "abcdefghijklmnopqrstuvwxyz".repeat(4).substring(0, 96);

    public static void main(String[] args) {
        Check check = new Check("RowsTest");
        promise2Type(check);
        promise2WrongTyping(check);
        promise2FullRow(check);
        promise3Cut(check);
        promise4Turn(check);
        promise5Letter(check);
        promise6Size(check);
        check.end();
    }

    private static void promise2Type(Check check) {
        RowAligner x = new RowAligner();
        check.same("type abc", x.type(0, Rows.pack("abc"), 3), 3);
        check.same("type z", x.type(0, Rows.pack("z"), 1), 4);
        check.same("type hgfedcba behind B", x.type(1, Rows.pack("hgfedcba"), 8), 8);
        check.same("type azazazaz", x.type(0, Rows.pack("azazazaz"), 8), 12);
        check.same("row A", Rows.row(x, 0), "abczazazazaz");
        check.same("row B", Rows.row(x, 1), "hgfedcba");
        check.same("type 2 of the letters in w", x.type(1, Rows.pack("xyzxyz"), 2), 10);
        check.same("type with bytes above that are none of its letters", x.type(1, 0xff00000000000061L, 1), 11);
        check.same("row B then", Rows.row(x, 1), "hgfedcbaxya");
    }

    private static void promise2WrongTyping(Check check) {
        RowAligner x = Rows.of("ab", "cd");
        for (int row : new int[] {-1, 2, Integer.MIN_VALUE, Integer.MAX_VALUE}) {
            check.outOfBounds("type in row " + row, () -> x.type(row, 97, 1));
            check.outOfBounds("type wrongly in row " + row, () -> x.type(row, 0, 9));
        }
        for (int n : new int[] {0, -1, 9, Integer.MIN_VALUE, Integer.MAX_VALUE}) {
            check.badArgument("type n = " + n, () -> x.type(0, Rows.pack("aaaaaaaa"), n));
        }
        for (int character : new int[] {0, 96, 123, 65, 90, 255, 128 + 97}) {
            for (int k = 0; k < 8; k++) {
                int shift = 8 * k;
                long w = Rows.pack("aaaaaaaa") & ~(255L << shift) | (long) character << shift;
                check.badArgument("type character " + character + " at " + k, () -> x.type(1, w, 8));
                if (k > 0) {
                    int n = k;
                    check.badArgument("type character " + character + " last", () -> x.type(1, w, n + 1));
                }
            }
        }
        check.same("row A after refused typing", Rows.row(x, 0), "ab");
        check.same("row B after refused typing", Rows.row(x, 1), "cd");
    }

    private static void promise2FullRow(Check check) {
        for (int row = 0; row < 2; row++) {
            int r = row;
            RowAligner x = new RowAligner();
            Rows.type(x, r, NINETY_SIX.substring(0, 95));
            check.badState("type 2 behind 95", () -> x.type(r, Rows.pack("aa"), 2));
            check.same("size after that", x.size(r), 95);
            check.same("type 1 behind 95", x.type(r, Rows.pack("r"), 1), 96);
            check.badState("type 1 behind 96", () -> x.type(r, Rows.pack("a"), 1));
            check.badState("type 8 behind 96", () -> x.type(r, Rows.pack("aaaaaaaa"), 8));
            check.badArgument("type a wrong character behind 96", () -> x.type(r, 96, 1));
            check.badArgument("type 9 behind 96", () -> x.type(r, Rows.pack("aaaaaaaa"), 9));
            check.same("the full row", Rows.row(x, r), NINETY_SIX);
            check.same("the other row", x.size(1 - r), 0);
        }
    }

    private static void promise3Cut(Check check) {
        RowAligner x = Rows.of("abcdef", "uvwxyz");
        x.cut(0, 4);
        check.same("A cut behind 4", Rows.row(x, 0), "abcd");
        x.cut(0, 4);
        check.same("A cut where it ends", Rows.row(x, 0), "abcd");
        check.same("B beside it", Rows.row(x, 1), "uvwxyz");
        check.badArgument("cut behind more than there are", () -> x.cut(0, 5));
        check.badArgument("cut below 0", () -> x.cut(1, -1));
        check.badArgument("cut behind the most", () -> x.cut(1, Integer.MAX_VALUE));
        for (int row : new int[] {-1, 2}) {
            check.outOfBounds("cut row " + row, () -> x.cut(row, 0));
            check.outOfBounds("cut row " + row + " wrongly", () -> x.cut(row, -1));
        }
        check.same("A after refused cuts", Rows.row(x, 0), "abcd");
        check.same("B after refused cuts", Rows.row(x, 1), "uvwxyz");
        x.cut(1, 0);
        check.same("B cut behind nothing", Rows.row(x, 1), "");
        check.same("type behind a cut", x.type(0, Rows.pack("q"), 1), 5);
        check.same("A typed behind a cut", Rows.row(x, 0), "abcdq");
    }

    private static void promise4Turn(Check check) {
        RowAligner x = Rows.of("abcde", "wxyz");
        x.turn(0);
        check.same("A turned", Rows.row(x, 0), "edcba");
        check.same("B beside it", Rows.row(x, 1), "wxyz");
        x.turn(1);
        check.same("B turned", Rows.row(x, 1), "zyxw");
        x.turn(0);
        check.same("A turned twice", Rows.row(x, 0), "abcde");
        x.cut(0, 2);
        x.turn(0);
        check.same("A cut and turned", Rows.row(x, 0), "ba");
        x.cut(0, 0);
        x.turn(0);
        check.same("an empty row turned", Rows.row(x, 0), "");
        check.outOfBounds("turn row 2", () -> x.turn(2));
        check.outOfBounds("turn row -1", () -> x.turn(-1));
        check.same("B after refused turns", Rows.row(x, 1), "zyxw");
    }

    private static void promise5Letter(Check check) {
        RowAligner x = Rows.of("az", "mno");
        check.same("a", x.letter(0, 0), 0);
        check.same("z", x.letter(0, 1), 25);
        check.same("o", x.letter(1, 2), 14);
        check.outOfBounds("a letter behind A", () -> x.letter(0, 2));
        check.outOfBounds("a letter behind B", () -> x.letter(1, 3));
        check.outOfBounds("a letter before A", () -> x.letter(0, -1));
        check.outOfBounds("a letter far off", () -> x.letter(0, Integer.MAX_VALUE));
        check.outOfBounds("a letter of row 2", () -> x.letter(2, 0));
        check.outOfBounds("a letter of row -1", () -> x.letter(-1, 0));
        x.cut(1, 1);
        check.outOfBounds("a letter that was cut off", () -> x.letter(1, 1));
    }

    private static void promise6Size(Check check) {
        RowAligner x = Rows.of("abc", NINETY_SIX);
        check.same("size(0)", x.size(0), 3);
        check.same("size(1)", x.size(1), 96);
        x.cut(1, 7);
        check.same("size(1) after a cut", x.size(1), 7);
        x.turn(1);
        check.same("size(1) after a turn", x.size(1), 7);
        check.outOfBounds("size(2)", () -> x.size(2));
        check.outOfBounds("size(-1)", () -> x.size(-1));
    }
}
