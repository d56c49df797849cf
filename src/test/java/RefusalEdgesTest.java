import java.util.ArrayList;
import java.util.List;
import java.util.function.Consumer;

/** What 'Terms' says of calls that throw: a test of its own for each sentence and each call that can. */
public final class RefusalEdgesTest {
    private static final int LOW = Integer.MIN_VALUE;
    private static final int HIGH = Integer.MAX_VALUE;

    /** What ready() is: its rows, the worth of its draft, its layings with whole(9) and parts(), and all at last. */
    private static final String ROWS_AND_DRAFT = "aabb azabq 6 9";
    private static final String LAYING_OF_WHOLE = "00002 0..4 0..5 2 2 1 1 0x4 2x1 1 0 1 2 3 4";
    private static final String LAYING_OF_PARTS = "000 0..3 1..4 1 2 0 0 0x3 1 -1 -1 -1 -1 -1";
    private static final String AT_LAST = "7 02000 0..4 0..5 3 3 1 1 0x1 2x1 0x3 1 0 1 3 4 5 9 11 " + LAYING_OF_PARTS
            + " 5";

    private final Check check = new Check("RefusalEdgesTest");

    /** A call that is refused on the rows of ready(), laid or not. */
    private record Refused(String call, Consumer<RowAligner> body) {
    }

    /** A change that takes the laying away. */
    private record Change(String call, Consumer<RowAligner> body) {
    }

    public static void main(String[] args) {
        RefusalEdgesTest test = new RefusalEdgesTest();
        test.changesNothing();
        test.changesNothingWithoutRoom();
        test.theOneNamedFirst();
        test.noSuchOne();
        test.anotherNumber();
        test.noRoom();
        test.nothingLaid();
        test.draftDoesNotMatter();
        test.questionsChangeNothing();
        test.check.end();
    }

    /** The draft pairs a with a, a with z, b with a and b with b, the pairs whose scores a slip would change. */
    private static RowAligner ready() {
        RowAligner x = Rows.of("aabb", "azabq");
        x.scores(4, -2);
        x.score(0, 25, 3);
        x.costs(2, 1);
        Rows.draw(x, "00002");
        return x;
    }

    private static String told(RowAligner x) {
        return Rows.row(x, 0) + " " + Rows.row(x, 1) + " " + x.worth(0) + " " + x.worth(15);
    }

    private static String toldOfLaying(RowAligner x) {
        return Rows.steps(x) + " " + Rows.places(x) + " " + Rows.counts(x) + " " + Rows.runs(x) + " " + x.ways() + " "
                + Rows.crossings(x);
    }

    private static String toldAtLast(RowAligner x) {
        return x.whole(0) + " " + toldOfLaying(x) + " " + x.whole(6) + " " + x.parts() + " " + toldOfLaying(x) + " "
                + x.wipe();
    }

    private static List<Refused> refusals() {
        List<Refused> all = new ArrayList<>();
        for (int row : new int[] {-1, 2, LOW, HIGH}) {
            all.add(new Refused("type(" + row + ", ..)", x -> x.type(row, 'c', 1)));
            all.add(new Refused("cut(" + row + ", 0)", x -> x.cut(row, 0)));
            all.add(new Refused("turn(" + row + ")", x -> x.turn(row)));
            all.add(new Refused("letter(" + row + ", 0)", x -> x.letter(row, 0)));
            all.add(new Refused("size(" + row + ")", x -> x.size(row)));
            all.add(new Refused("place(" + row + ", true)", x -> x.place(row, true)));
        }
        for (int row = 0; row < 2; row++) {
            int r = row;
            all.add(new Refused("type n = 0", x -> x.type(r, Rows.pack("cccccccc"), 0)));
            all.add(new Refused("type n = 9", x -> x.type(r, Rows.pack("cccccccc"), 9)));
            all.add(new Refused("type a wrong first one", x -> x.type(r, Rows.pack("`cc"), 3)));
            all.add(new Refused("type a wrong last one", x -> x.type(r, Rows.pack("cc{"), 3)));
            all.add(new Refused("cut below 0", x -> x.cut(r, -1)));
            all.add(new Refused("cut behind more than there are", x -> x.cut(r, 6)));
            all.add(new Refused("letter -1", x -> x.letter(r, -1)));
            all.add(new Refused("letter 5", x -> x.letter(r, 5)));
        }
        addWrongPrices(all);
        addWrongQuestions(all);
        return all;
    }

    private static void addWrongPrices(List<Refused> all) {
        all.add(new Refused("score(0, 0, 513)", x -> x.score(0, 0, 513)));
        all.add(new Refused("score(0, 0, -513)", x -> x.score(0, 0, -513)));
        all.add(new Refused("score(0, 26, 9)", x -> x.score(0, 26, 9)));
        all.add(new Refused("score(1, -1, 9)", x -> x.score(1, -1, 9)));
        all.add(new Refused("score(-1, 26, 9)", x -> x.score(-1, 26, 9)));
        all.add(new Refused("score(26, 0, 9)", x -> x.score(26, 0, 9)));
        all.add(new Refused("scores(9, 513)", x -> x.scores(9, 513)));
        all.add(new Refused("scores(513, 9)", x -> x.scores(513, 9)));
        all.add(new Refused("scores(9, -513)", x -> x.scores(9, -513)));
        all.add(new Refused("scores(-513, 9)", x -> x.scores(-513, 9)));
        all.add(new Refused("costs(9, 513)", x -> x.costs(9, 513)));
        all.add(new Refused("costs(513, 9)", x -> x.costs(513, 9)));
        all.add(new Refused("costs(9, -1)", x -> x.costs(9, -1)));
        all.add(new Refused("costs(-1, 9)", x -> x.costs(-1, 9)));
    }

    private static void addWrongQuestions(List<Refused> all) {
        for (int free : new int[] {-1, 16, LOW, HIGH}) {
            all.add(new Refused("whole(" + free + ")", x -> x.whole(free)));
            all.add(new Refused("worth(" + free + ")", x -> x.worth(free)));
        }
        for (int i : new int[] {-1, 20, LOW, HIGH}) {
            all.add(new Refused("step(" + i + ")", x -> x.step(i)));
            all.add(new Refused("count(" + i + ")", x -> x.count(i)));
            all.add(new Refused("run(" + i + ", 0)", x -> x.run(i, 0)));
            all.add(new Refused("run(" + i + ", 1)", x -> x.run(i, 1)));
            all.add(new Refused("run(0, " + i + ")", x -> x.run(0, i)));
            all.add(new Refused("crossing(" + i + ")", x -> x.crossing(i)));
            all.add(new Refused("draw(" + i + ")", x -> x.draw(i)));
        }
    }

    private void refuse(Refused refused, RowAligner x) {
        int thrown = 0;
        try {
            refused.body.accept(x);
        } catch (RuntimeException e) {
            thrown = 1;
        }
        check.same(refused.call + " is refused", thrown, 1);
    }

    private void changesNothing() {
        for (Refused refused : refusals()) {
            check.sentence("A call that throws changes nothing: " + refused.call, () -> {
                RowAligner x = ready();
                refuse(refused, x);
                check.badState("steps(): it lays nothing", () -> x.steps());
                check.same("rows and draft", told(x), ROWS_AND_DRAFT);
                check.same("all that follows", toldAtLast(x), AT_LAST);
                RowAligner y = ready();
                y.whole(9);
                refuse(refused, y);
                check.same("the laying", toldOfLaying(y), LAYING_OF_WHOLE);
                refuse(refused, y);
                check.same("the laying when it was told", toldOfLaying(y), LAYING_OF_WHOLE);
                check.same("rows and draft behind it", told(y), ROWS_AND_DRAFT);
                RowAligner z = ready();
                z.parts();
                refuse(refused, z);
                check.same("the laying of parts", toldOfLaying(z), LAYING_OF_PARTS);
                check.same("all that follows it", toldAtLast(z), AT_LAST);
            });
        }
    }

    private void changesNothingWithoutRoom() {
        check.sentence("A call that throws changes nothing: type without room", () -> {
            for (int row = 0; row < 2; row++) {
                int r = row;
                RowAligner x = new RowAligner();
                Rows.type(x, r, "a".repeat(93));
                Rows.type(x, 1 - r, "a");
                x.whole(0);
                check.badState("type 4 behind 93", () -> x.type(r, Rows.pack("bbbb"), 4));
                check.same("steps()", x.steps(), 93);
                check.same("ways()", x.ways(), 2);
                check.same("size", x.size(r), 93);
                check.same("the row", Rows.row(x, r), "a".repeat(93));
                check.same("type 3 behind 93", x.type(r, Rows.pack("ccc"), 3), 96);
                check.badState("type 1 behind 96", () -> x.type(r, 'b', 1));
                check.badState("steps(): it lays nothing", () -> x.steps());
                check.same("the full row", Rows.row(x, r), "a".repeat(93) + "ccc");
                check.same("the other row", Rows.row(x, 1 - r), "a");
            }
        });
        check.sentence("A call that throws changes nothing: draw without room", () -> {
            RowAligner x = Rows.of("ab", "ab");
            x.whole(0);
            for (int k = 0; k < 200; k++) {
                x.draw(0);
            }
            check.badState("draw behind 200", () -> x.draw(1));
            check.same("the laying", toldOfLaying(x), "00 0..2 0..2 1 2 0 0 0x2 1 0 1 2");
            check.same("wipe()", x.wipe(), 200);
        });
    }

    private void theOneNamedFirst() {
        RowAligner unlaid = Rows.of("ab", "ab");
        RowAligner changed = Rows.of("ab", "ab");
        changed.whole(0);
        changed.scores(1, -1);
        RowAligner laid = Rows.of("ab", "ab");
        laid.whole(0);
        RowAligner full = Rows.of("a".repeat(96), "b".repeat(96));
        String first = "of several exceptions the one named first is thrown: ";
        check.sentence(first + "type", () -> {
            check.outOfBounds("no row, n = 0", () -> full.type(2, 'a', 0));
            check.outOfBounds("no row, n = 9", () -> full.type(-1, 'a', 9));
            check.outOfBounds("no row, no character", () -> full.type(2, 0, 1));
            check.outOfBounds("no row, all wrong", () -> full.type(LOW, -1, LOW));
            for (int row = 0; row < 2; row++) {
                int r = row;
                check.badArgument("no room, n = 0", () -> full.type(r, 'a', 0));
                check.badArgument("no room, n = 9", () -> full.type(r, Rows.pack("aaaaaaaa"), 9));
                check.badArgument("no room, n is the greatest", () -> full.type(r, Rows.pack("aaaaaaaa"), HIGH));
                check.badArgument("no room, no character", () -> full.type(r, 'A', 1));
                check.badArgument("no room, no character at last", () -> full.type(r, Rows.pack("aaaaaaa{"), 8));
            }
        });
        check.sentence(first + "cut", () -> {
            check.outOfBounds("no row, below 0", () -> laid.cut(2, -1));
            check.outOfBounds("no row, more than it has", () -> laid.cut(-1, 97));
        });
        check.sentence(first + "score", () -> {
            check.outOfBounds("no letter of A, no score", () -> laid.score(26, 0, 513));
            check.outOfBounds("no letter of B, no score", () -> laid.score(0, -1, -513));
            check.outOfBounds("all wrong", () -> laid.score(LOW, HIGH, HIGH));
        });
        for (RowAligner x : new RowAligner[] {unlaid, changed}) {
            String state = x == unlaid ? "nothing laid, " : "nothing laid since a change, ";
            check.sentence(first + "step", () -> {
                check.badState(state + "no step -1", () -> x.step(-1));
                check.badState(state + "no step 2", () -> x.step(2));
            });
            check.sentence(first + "place", () -> {
                check.outOfBounds(state + "no row 2", () -> x.place(2, true));
                check.outOfBounds(state + "no row -1", () -> x.place(-1, false));
            });
            check.sentence(first + "count", () -> {
                check.badArgument(state + "what = 4", () -> x.count(4));
                check.badArgument(state + "what = -1", () -> x.count(-1));
            });
            check.sentence(first + "run", () -> {
                check.badArgument(state + "what = 2, no run", () -> x.run(-1, 2));
                check.badArgument(state + "what = -1", () -> x.run(0, -1));
                check.badState(state + "no run -1", () -> x.run(-1, 0));
                check.badState(state + "no run 2", () -> x.run(2, 1));
                check.badArgument("laid, what = 2, no run", () -> laid.run(9, 2));
                check.badArgument("laid, what = -1, no run", () -> laid.run(-1, -1));
            });
            check.sentence(first + "crossing", () -> {
                check.badState(state + "i = -1", () -> x.crossing(-1));
                check.badState(state + "i = 3", () -> x.crossing(3));
            });
        }
        check.sentence(first + "draw", () -> {
            for (int k = 0; k < 200; k++) {
                full.draw(0);
            }
            check.badArgument("no room, no step 3", () -> full.draw(3));
            check.badArgument("no room, no step -1", () -> full.draw(-1));
        });
    }

    private void noSuchOne() {
        RowAligner x = ready();
        x.whole(0);
        int steps = x.steps();
        int runs = x.count(0);
        String none = "IndexOutOfBoundsException: there is no such ";
        check.sentence(none + "row", () -> {
            for (int row : new int[] {-1, 2, 4, LOW, HIGH}) {
                check.outOfBounds("type", () -> x.type(row, 'a', 1));
                check.outOfBounds("cut", () -> x.cut(row, 0));
                check.outOfBounds("turn", () -> x.turn(row));
                check.outOfBounds("letter", () -> x.letter(row, 0));
                check.outOfBounds("size", () -> x.size(row));
                check.outOfBounds("place", () -> x.place(row, true));
            }
        });
        check.sentence(none + "step", () -> {
            check.outOfBounds("the one behind the last", () -> x.step(steps));
            check.outOfBounds("the one before the first", () -> x.step(-1));
            check.outOfBounds("the least number", () -> x.step(LOW));
            check.outOfBounds("the greatest number", () -> x.step(HIGH));
        });
        check.sentence(none + "run", () -> {
            for (int what = 0; what < 2; what++) {
                int w = what;
                check.outOfBounds("the one behind the last", () -> x.run(runs, w));
                check.outOfBounds("the one before the first", () -> x.run(-1, w));
                check.outOfBounds("the least number", () -> x.run(LOW, w));
                check.outOfBounds("the greatest number", () -> x.run(HIGH, w));
            }
        });
        check.sentence(none + "letter", () -> {
            check.outOfBounds("behind A", () -> x.letter(0, 4));
            check.outOfBounds("behind B", () -> x.letter(1, 5));
            check.outOfBounds("before A", () -> x.letter(0, -1));
            check.outOfBounds("before B", () -> x.letter(1, -1));
            check.outOfBounds("a score of letter 26 of A", () -> x.score(26, 1, 1));
            check.outOfBounds("a score of letter -1 of A", () -> x.score(-1, 1, 1));
            check.outOfBounds("a score of letter 26 of B", () -> x.score(1, 26, 1));
            check.outOfBounds("a score of letter -1 of B", () -> x.score(1, -1, 1));
        });
    }

    private void anotherNumber() {
        RowAligner x = ready();
        x.whole(0);
        check.sentence("IllegalArgumentException: another number is not as said.", () -> {
            for (int wrong : new int[] {-1, LOW, HIGH}) {
                check.badArgument("type n = " + wrong, () -> x.type(0, 'a', wrong));
                check.badArgument("cut n = " + wrong, () -> x.cut(0, wrong));
                check.badArgument("open = " + wrong, () -> x.costs(wrong, 0));
                check.badArgument("more = " + wrong, () -> x.costs(0, wrong));
                check.badArgument("whole free = " + wrong, () -> x.whole(wrong));
                check.badArgument("worth free = " + wrong, () -> x.worth(wrong));
                check.badArgument("count what = " + wrong, () -> x.count(wrong));
                check.badArgument("run what = " + wrong, () -> x.run(0, wrong));
                check.badArgument("draw step = " + wrong, () -> x.draw(wrong));
            }
            for (int wrong : new int[] {-513, 513, LOW, HIGH}) {
                check.badArgument("v = " + wrong, () -> x.score(0, 0, wrong));
                check.badArgument("same = " + wrong, () -> x.scores(wrong, 0));
                check.badArgument("others = " + wrong, () -> x.scores(0, wrong));
            }
        });
    }

    private void noRoom() {
        check.sentence("IllegalStateException: there is no room", () -> {
            RowAligner x = Rows.of("a".repeat(96), "b".repeat(90));
            check.badState("one more behind 96", () -> x.type(0, 'a', 1));
            check.badState("seven more behind 90", () -> x.type(1, Rows.pack("aaaaaaa"), 7));
            check.same("six more behind 90", x.type(1, Rows.pack("aaaaaa"), 6), 96);
            for (int k = 0; k < 200; k++) {
                x.draw(2);
            }
            check.badState("a step behind 200", () -> x.draw(2));
            x.cut(0, 95);
            check.same("one more behind 95", x.type(0, 'a', 1), 96);
            x.wipe();
            check.same("a step behind none", x.draw(2), 1);
        });
    }

    private static List<Change> changes() {
        List<Change> all = new ArrayList<>();
        for (int row = 0; row < 2; row++) {
            int r = row;
            all.add(new Change("type in " + r, x -> x.type(r, 'a', 1)));
            all.add(new Change("cut " + r, x -> x.cut(r, 1)));
            all.add(new Change("cut " + r + " behind nothing", x -> x.cut(r, 0)));
            all.add(new Change("cut " + r + " to what it was", x -> x.cut(r, 3)));
            all.add(new Change("turn " + r, x -> x.turn(r)));
            all.add(new Change("turn " + r + " to what it was", x -> {
                x.turn(r);
                x.turn(r);
            }));
            all.add(new Change("cut and type " + r + " to what it was", x -> {
                x.cut(r, 2);
                x.type(r, r == 0 ? 'c' : 'd', 1);
            }));
        }
        all.add(new Change("score", x -> x.score(0, 0, 2)));
        all.add(new Change("score of letters that no row has", x -> x.score(20, 21, 2)));
        all.add(new Change("score to what it was", x -> x.score(0, 0, 1)));
        all.add(new Change("score of others to what it was", x -> x.score(2, 3, -1)));
        all.add(new Change("scores", x -> x.scores(2, -2)));
        all.add(new Change("scores to what they were", x -> x.scores(1, -1)));
        all.add(new Change("costs", x -> x.costs(4, 4)));
        all.add(new Change("costs to what they were", x -> x.costs(3, 1)));
        return all;
    }

    private void nothingLaid() {
        String nothing = "IllegalStateException: .. nothing was laid";
        check.sentence(nothing, () -> everyQuestionIsRefused(new RowAligner(), "at first"));
        check.sentence(nothing, () -> everyQuestionIsRefused(Rows.of("abc", "abd"), "before the first laying"));
        check.sentence(nothing, () -> {
            RowAligner x = Rows.of("abc", "abd");
            Rows.draw(x, "000");
            x.worth(0);
            everyQuestionIsRefused(x, "with a draft alone");
        });
        for (Change change : changes()) {
            for (int asked = 0; asked < 4; asked++) {
                boolean ofParts = asked % 2 == 1;
                boolean told = asked > 1;
                check.sentence(nothing + " since rows, scores or costs were changed (also to what they were): "
                        + change.call, () -> takenAway(change, ofParts, told));
            }
        }
        check.sentence(nothing + " since .. (also to what they were): rows without a letter, or with one", () -> {
            for (String a : new String[] {"", "q"}) {
                for (int row = 0; row < 2; row++) {
                    RowAligner turned = Rows.of(a, a);
                    turned.parts();
                    turned.turn(row);
                    everyQuestionIsRefused(turned, "behind turn(" + row + ")");
                    RowAligner cut = Rows.of(a, a);
                    cut.whole(0);
                    cut.cut(row, a.length());
                    everyQuestionIsRefused(cut, "behind cut(" + row + ", " + a.length() + ")");
                }
            }
        });
    }

    private void takenAway(Change change, boolean ofParts, boolean told) {
        RowAligner x = Rows.of("abc", "abd");
        int worth = ofParts ? x.parts() : x.whole(0);
        check.same("its worth", worth, ofParts ? 2 : 1);
        if (told) {
            toldOfLaying(x);
        }
        change.body.accept(x);
        everyQuestionIsRefused(x, "behind " + change.call);
        RowAligner y = Rows.of("abc", "abd");
        change.body.accept(y);
        check.same("whole(0) laid again", x.whole(0), y.whole(0));
        check.same("all of it", toldOfLaying(x), toldOfLaying(y));
        check.same("parts() laid again", x.parts(), y.parts());
        check.same("all of them", toldOfLaying(x), toldOfLaying(y));
    }

    private void everyQuestionIsRefused(RowAligner x, String when) {
        check.badState("steps() " + when, () -> x.steps());
        check.badState("step(0) " + when, () -> x.step(0));
        check.badState("ways() " + when, () -> x.ways());
        check.badState("crossing(0) " + when, () -> x.crossing(0));
        for (int k = 0; k < 4; k++) {
            int n = k;
            check.badState("count(" + n + ") " + when, () -> x.count(n));
            check.badState("place(" + n / 2 + ", " + (n % 2 == 1) + ") " + when, () -> x.place(n / 2, n % 2 == 1));
            check.badState("run(" + n / 2 + ", " + n % 2 + ") " + when, () -> x.run(n / 2, n % 2));
        }
    }

    private void draftDoesNotMatter() {
        check.sentence("(..; the DRAFT does not matter)", () -> {
            RowAligner x = ready();
            x.whole(9);
            String due = LAYING_OF_WHOLE;
            x.draw(1);
            check.same("behind draw", toldOfLaying(x), due);
            x.worth(6);
            check.same("behind worth of no laying", toldOfLaying(x), due);
            x.wipe();
            check.same("behind wipe", toldOfLaying(x), due);
            x.wipe();
            check.same("behind wipe of none", toldOfLaying(x), due);
            RowAligner y = ready();
            y.whole(9);
            y.worth(6);
            y.draw(2);
            y.wipe();
            check.same("not told before", toldOfLaying(y), due);
            check.same("worth(0) of a draft goes on without a laying", ready().worth(0), 4 + 3 - 2 + 4 - 3);
        });
        check.sentence("the DRAFT stays as it is when rows are laid or changed", () -> {
            RowAligner x = ready();
            int due = 6;
            x.whole(3);
            check.same("behind whole", x.worth(0), due);
            x.parts();
            check.same("behind parts", x.worth(0), due);
            x.type(0, 'a', 1);
            x.cut(0, 4);
            check.same("behind a change to what it was", x.worth(0), due);
            check.same("its steps", x.wipe(), 5);
        });
    }

    private void questionsChangeNothing() {
        check.sentence("A laying stays as it is when it is asked for", () -> {
            RowAligner x = ready();
            x.whole(9);
            String due = LAYING_OF_WHOLE;
            for (int time = 0; time < 3; time++) {
                check.same("asked again", toldOfLaying(x), due);
            }
            x.crossing(4);
            x.ways();
            x.crossing(0);
            check.same("asked in another order", toldOfLaying(x), due);
            check.same("rows and draft", told(x), ROWS_AND_DRAFT);
        });
    }
}
