/** Promises 1 to 6: a test of its own for each sentence of the document that names a boundary case. */
public final class RowsEdgesTest {
    private static final int[] NO_ROWS = {-1, 2, 3, 256, 65536, Integer.MIN_VALUE, Integer.MAX_VALUE};
    private static final String EIGHT = "aaaaaaaa";
    private static final String NINETY_SIX = "abcdefghijklmnopqrstuvwxyz".repeat(4).substring(0, 96);

    private final Check check = new Check("RowsEdgesTest");

    public static void main(String[] args) {
        RowsEdgesTest test = new RowsEdgesTest();
        test.newObject();
        test.type();
        test.wrongType();
        test.cut();
        test.turn();
        test.letter();
        test.size();
        test.check.end();
    }

    private void newObject() {
        check.sentence("1: Both rows .. are empty.", () -> {
            for (int row = 0; row < 2; row++) {
                RowAligner x = new RowAligner();
                int r = row;
                check.same("size(" + r + ")", x.size(r), 0);
                check.outOfBounds("letter(" + r + ", 0)", () -> x.letter(r, 0));
                check.badArgument("cut(" + r + ", 1)", () -> x.cut(r, 1));
                check.same("type behind nothing", x.type(r, 'q', 1), 1);
                check.same("the first letter", x.letter(r, 0), 16);
            }
            RowAligner y = new RowAligner();
            check.same("whole(0)", y.whole(0), 0);
            check.same("its places", Rows.places(y), "0..0 0..0");
        });
        check.sentence("1: .. and the draft [is] empty.", () -> {
            check.same("wipe()", new RowAligner().wipe(), 0);
            check.same("the first draw(2)", new RowAligner().draw(2), 1);
            check.same("worth(0): no steps lay two empty rows", new RowAligner().worth(0), 0);
        });
    }

    private void type() {
        check.sentence("2: n letters more behind row 0 (A) or 1 (B)", () -> {
            for (int n = 1; n <= 8; n++) {
                for (int row = 0; row < 2; row++) {
                    RowAligner x = Rows.of("xy", "zw");
                    x.type(row, Rows.pack("abcdefgh"), n);
                    String typed = "abcdefgh".substring(0, n);
                    check.same(n + " behind " + row + ": A", Rows.row(x, 0), "xy" + (row == 0 ? typed : ""));
                    check.same(n + " behind " + row + ": B", Rows.row(x, 1), "zw" + (row == 1 ? typed : ""));
                }
            }
        });
        check.sentence("2: told as characters 97 .. 122", () -> {
            for (int k = 0; k < 8; k++) {
                for (char c : new char[] {'a', 'b', 'y', 'z'}) {
                    String told = "m".repeat(k) + c + "m".repeat(7 - k);
                    check.same(told, Rows.row(Rows.of(told, ""), 0), told);
                    check.same(told, Rows.row(Rows.of("", told), 1), told);
                }
            }
        });
        check.sentence("2: the lowest byte of w first", () -> {
            RowAligner x = new RowAligner();
            x.type(0, 0x7a79787764636261L, 8);
            check.same("eight bytes", Rows.row(x, 0), "abcdwxyz");
            x.type(1, 0x6261L, 2);
            check.same("two bytes", Rows.row(x, 1), "ab");
        });
        check.sentence("2: how many it has then", () -> {
            for (int n = 1; n <= 8; n++) {
                RowAligner x = new RowAligner();
                for (int has = n; has <= 96; has += n) {
                    check.same(n + " letters more", x.type(1, Rows.pack(EIGHT), n), has);
                }
            }
        });
    }

    private void wrongType() {
        check.sentence("2: IndexOutOfBoundsException", () -> {
            for (int row : NO_ROWS) {
                check.outOfBounds("type in row " + row, () -> new RowAligner().type(row, 'a', 1));
            }
        });
        check.sentence("2: IllegalArgumentException: n is not 1 .. 8", () -> {
            for (int n : new int[] {0, -1, -8, 9, 16, 257, Integer.MIN_VALUE, Integer.MAX_VALUE}) {
                RowAligner x = Rows.of("x", "y");
                check.badArgument("n = " + n + " in A", () -> x.type(0, Rows.pack(EIGHT), n));
                check.badArgument("n = " + n + " in B", () -> x.type(1, Rows.pack(EIGHT), n));
                check.same("A", Rows.row(x, 0), "x");
                check.same("B", Rows.row(x, 1), "y");
            }
        });
        check.sentence("2: IllegalArgumentException: .. or a character another one", this::wrongCharacters);
        check.sentence("2: IllegalStateException: there would be more than 96", () -> {
            for (int row = 0; row < 2; row++) {
                for (int has = 87; has <= 96; has++) {
                    for (int n = 1; n <= 8; n++) {
                        typeNearTheEnd(row, has, n);
                    }
                }
            }
        });
    }

    private void wrongCharacters() {
        for (int k = 0; k < 8; k++) {
            int shift = 8 * k;
            int n = k + 1;
            for (int character = 0; character < 256; character++) {
                if (character < 97 || character > 122) {
                    long w = Rows.pack(EIGHT) & ~(255L << shift) | (long) character << shift;
                    RowAligner x = Rows.of("x", "y");
                    String told = "character " + character + " at " + k;
                    check.badArgument(told + ", the last one", () -> x.type(0, w, n));
                    check.badArgument(told + " of eight", () -> x.type(1, w, 8));
                    check.same("A after " + told, Rows.row(x, 0), "x");
                    check.same("B after " + told, Rows.row(x, 1), "y");
                    if (k > 0) {
                        check.same("no letter: " + told, x.type(0, w, k), 1 + k);
                    }
                }
            }
        }
    }

    private void typeNearTheEnd(int row, int has, int n) {
        RowAligner x = new RowAligner();
        Rows.type(x, row, NINETY_SIX.substring(0, has));
        Rows.type(x, 1 - row, "k");
        String told = n + " behind " + has + " in row " + row;
        if (has + n <= 96) {
            check.same(told, x.type(row, Rows.pack("zyxwvuts"), n), has + n);
            check.same("the row with " + told, Rows.row(x, row),
                    NINETY_SIX.substring(0, has) + "zyxwvuts".substring(0, n));
        } else {
            check.badState(told, () -> x.type(row, Rows.pack("zyxwvuts"), n));
            check.same("the row without " + told, Rows.row(x, row), NINETY_SIX.substring(0, has));
        }
        check.same("the other row", Rows.row(x, 1 - row), "k");
    }

    private void cut() {
        check.sentence("3: A row is cut behind its first n letters.", () -> {
            for (int row = 0; row < 2; row++) {
                for (int n : new int[] {0, 1, 2, 48, 94, 95, 96}) {
                    RowAligner x = Rows.of(NINETY_SIX, NINETY_SIX);
                    int r = row;
                    x.cut(r, n);
                    check.same("cut behind " + n, Rows.row(x, r), NINETY_SIX.substring(0, n));
                    check.same("the other row", x.size(1 - r), 96);
                    check.outOfBounds("letter " + n + " of it", () -> x.letter(r, n));
                }
            }
            RowAligner y = Rows.of("abcdef", "");
            y.cut(0, 2);
            y.type(0, 'z', 1);
            check.same("typed behind a cut", Rows.row(y, 0), "abz");
            y.cut(1, 0);
            check.same("nothing, cut behind nothing", y.size(1), 0);
            RowAligner full = Rows.of(NINETY_SIX, "");
            full.cut(0, 88);
            check.same("room again", full.type(0, Rows.pack(EIGHT), 8), 96);
        });
        check.sentence("3: IndexOutOfBoundsException", () -> {
            for (int row : NO_ROWS) {
                check.outOfBounds("cut row " + row, () -> Rows.of("a", "b").cut(row, 0));
            }
        });
        check.sentence("3: IllegalArgumentException: n is below 0", () -> {
            for (int n : new int[] {-1, -2, -96, Integer.MIN_VALUE}) {
                wrongCut(Rows.of("abc", "defg"), n, "abc", "defg");
                wrongCut(new RowAligner(), n, "", "");
            }
        });
        check.sentence("3: IllegalArgumentException: n is .. more than it has", () -> {
            for (int n : new int[] {5, 6, 96, 97, Integer.MAX_VALUE}) {
                wrongCut(Rows.of("abc", "defg"), n, "abc", "defg");
            }
            RowAligner x = Rows.of("abc", "defg");
            check.badArgument("cut A behind 4, as many as B has", () -> x.cut(0, 4));
            RowAligner y = Rows.of("abc", "de");
            check.badArgument("cut B behind 3, as many as A has", () -> y.cut(1, 3));
            y.cut(0, 1);
            check.badArgument("cut A behind what was cut off", () -> y.cut(0, 2));
            wrongCut(new RowAligner(), 1, "", "");
            wrongCut(Rows.of(NINETY_SIX, NINETY_SIX), 97, NINETY_SIX, NINETY_SIX);
        });
    }

    private void wrongCut(RowAligner x, int n, String a, String b) {
        check.badArgument("cut A behind " + n, () -> x.cut(0, n));
        check.badArgument("cut B behind " + n, () -> x.cut(1, n));
        check.same("A", Rows.row(x, 0), a);
        check.same("B", Rows.row(x, 1), b);
    }

    private void turn() {
        check.sentence("4: A row is turned round: its last letter becomes the first one.", () -> {
            for (int n : new int[] {0, 1, 2, 3, 4, 5, 8, 9, 95, 96}) {
                String text = NINETY_SIX.substring(0, n);
                String turned = new StringBuilder(text).reverse().toString();
                RowAligner x = Rows.of(text, text);
                x.turn(0);
                check.same("A turned", Rows.row(x, 0), turned);
                check.same("B beside it", Rows.row(x, 1), text);
                x.turn(0);
                check.same("A turned again", Rows.row(x, 0), text);
                RowAligner y = Rows.of(text, text);
                y.turn(1);
                check.same("B turned", Rows.row(y, 1), turned);
                check.same("A beside it", Rows.row(y, 0), text);
            }
            RowAligner z = Rows.of("abcdef", "");
            z.cut(0, 3);
            z.turn(0);
            z.type(0, 'x', 1);
            check.same("turned without what was cut off", Rows.row(z, 0), "cbax");
        });
        check.sentence("4: IndexOutOfBoundsException", () -> {
            for (int row : NO_ROWS) {
                RowAligner x = Rows.of("ab", "cd");
                check.outOfBounds("turn row " + row, () -> x.turn(row));
                check.same("A", Rows.row(x, 0), "ab");
                check.same("B", Rows.row(x, 1), "cd");
            }
        });
    }

    private void letter() {
        check.sentence("5: Letter i of a row, 0 .. 25.", () -> {
            RowAligner x = Rows.of(NINETY_SIX, new StringBuilder(NINETY_SIX).reverse().toString());
            for (int i = 0; i < 96; i++) {
                check.same("letter " + i + " of A", x.letter(0, i), i % 26);
                check.same("letter " + i + " of B", x.letter(1, i), (95 - i) % 26);
            }
        });
        check.sentence("5: IndexOutOfBoundsException (there is no such row)", () -> {
            for (int row : NO_ROWS) {
                check.outOfBounds("letter 0 of row " + row, () -> Rows.of("ab", "cd").letter(row, 0));
            }
        });
        check.sentence("5: IndexOutOfBoundsException (there is no such letter)", () -> {
            for (int size : new int[] {0, 1, 2, 95, 96}) {
                RowAligner x = Rows.of(NINETY_SIX.substring(0, size), NINETY_SIX.substring(0, size));
                for (int i : new int[] {-1, size, size + 1, 97, 200, Integer.MIN_VALUE, Integer.MAX_VALUE}) {
                    check.outOfBounds("letter " + i + " of A with " + size, () -> x.letter(0, i));
                    check.outOfBounds("letter " + i + " of B with " + size, () -> x.letter(1, i));
                }
            }
            RowAligner y = Rows.of("abc", "a");
            check.outOfBounds("letter 2 of B, which A has", () -> y.letter(1, 2));
            y.cut(0, 0);
            check.outOfBounds("letter 0 of A, which was cut off", () -> y.letter(0, 0));
        });
    }

    private void size() {
        check.sentence("6: How many letters a row has.", () -> {
            for (int n : new int[] {0, 1, 8, 9, 95, 96}) {
                RowAligner x = Rows.of(NINETY_SIX.substring(0, n), NINETY_SIX.substring(n));
                check.same("A with " + n, x.size(0), n);
                check.same("B with " + (96 - n), x.size(1), 96 - n);
                x.cut(0, 0);
                check.same("A cut", x.size(0), 0);
                check.same("B beside it", x.size(1), 96 - n);
            }
        });
        check.sentence("6: IndexOutOfBoundsException", () -> {
            for (int row : NO_ROWS) {
                check.outOfBounds("size of row " + row, () -> Rows.of("ab", "cd").size(row));
            }
        });
    }
}
