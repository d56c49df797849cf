/** What the tests say to an aligner, and read from it, as texts; sparing with calls, of which an object has 512. */
final class Rows {
    private Rows() {
    }

    static RowAligner of(String a, String b) {
        RowAligner x = new RowAligner();
        type(x, 0, a);
        type(x, 1, b);
        return x;
    }

    static void type(RowAligner x, int row, String text) {
        for (int from = 0; from < text.length(); from += 8) {
            String chunk = text.substring(from, Math.min(text.length(), from + 8));
            x.type(row, pack(chunk), chunk.length());
        }
    }

    static long pack(String chunk) {
        long w = 0;
        for (int k = chunk.length() - 1; k >= 0; k--) {
            w = w << 8 | chunk.charAt(k);
        }
        return w;
    }

    static String row(RowAligner x, int row) {
        StringBuilder text = new StringBuilder();
        int size = x.size(row);
        for (int i = 0; i < size; i++) {
            text.append((char) ('a' + x.letter(row, i)));
        }
        return text.toString();
    }

    static String steps(RowAligner x) {
        StringBuilder text = new StringBuilder();
        int steps = x.steps();
        for (int i = 0; i < steps; i++) {
            text.append(x.step(i));
        }
        return text.toString();
    }

    static String places(RowAligner x) {
        return x.place(0, false) + ".." + x.place(0, true) + " " + x.place(1, false) + ".." + x.place(1, true);
    }

    static String counts(RowAligner x) {
        return x.count(0) + " " + x.count(1) + " " + x.count(2) + " " + x.count(3);
    }

    static String runs(RowAligner x) {
        StringBuilder text = new StringBuilder();
        int runs = x.count(0);
        for (int i = 0; i < runs; i++) {
            text.append(i == 0 ? "" : " ").append(x.run(i, 0)).append('x').append(x.run(i, 1));
        }
        return text.toString();
    }

    static String crossings(RowAligner x) {
        StringBuilder text = new StringBuilder();
        int size = x.size(0);
        for (int i = 0; i <= size; i++) {
            text.append(i == 0 ? "" : " ").append(x.crossing(i));
        }
        return text.toString();
    }

    static void draw(RowAligner x, String steps) {
        x.wipe();
        for (int k = 0; k < steps.length(); k++) {
            x.draw(steps.charAt(k) - '0');
        }
    }
}
