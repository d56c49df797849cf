import java.util.function.Consumer;

/** What the terms say of states: what a change takes away, and that a call that throws changes nothing. */
public final class StateTest {
    public static void main(String[] args) {
        Check check = new Check("StateTest");
        changesTakeTheLayingAway(check);
        otherCallsLeaveTheLaying(check);
        refusedCallsLeaveTheLaying(check);
        check.end();
    }

    private static RowAligner laid() {
        RowAligner x = Rows.of("abc", "abd");
        x.whole(0);
        return x;
    }

    private static void changesTakeTheLayingAway(Check check) {
        takesAway(check, "type A", x -> x.type(0, 97, 1));
        takesAway(check, "type B", x -> x.type(1, 97, 1));
        takesAway(check, "cut A", x -> x.cut(0, 1));
        takesAway(check, "cut B where it ends", x -> x.cut(1, 3));
        takesAway(check, "turn A", x -> x.turn(0));
        takesAway(check, "turn B twice", x -> {
            x.turn(1);
            x.turn(1);
        });
        takesAway(check, "score", x -> x.score(4, 5, 7));
        takesAway(check, "score as it was", x -> x.score(0, 0, 1));
        takesAway(check, "scores", x -> x.scores(2, 0));
        takesAway(check, "scores as they were", x -> x.scores(1, -1));
        takesAway(check, "costs", x -> x.costs(0, 0));
        takesAway(check, "costs as they were", x -> x.costs(3, 1));
        RowAligner empty = new RowAligner();
        empty.parts();
        empty.turn(0);
        check.badState("steps() when an empty row was turned", () -> empty.steps());
        empty.parts();
        empty.cut(1, 0);
        check.badState("steps() when an empty row was cut", () -> empty.steps());
    }

    private static void takesAway(Check check, String what, Consumer<RowAligner> change) {
        RowAligner x = laid();
        x.ways();
        x.crossing(0);
        change.accept(x);
        check.badState("steps() after " + what, () -> x.steps());
        check.badState("step(0) after " + what, () -> x.step(0));
        check.badState("place(0, true) after " + what, () -> x.place(0, true));
        check.badState("count(0) after " + what, () -> x.count(0));
        check.badState("run(0, 0) after " + what, () -> x.run(0, 0));
        check.badState("ways() after " + what, () -> x.ways());
        check.badState("crossing(0) after " + what, () -> x.crossing(0));
        x.parts();
        check.same("crossing(0) when it is laid again", x.crossing(0), -1);
    }

    private static void otherCallsLeaveTheLaying(Check check) {
        leaves(check, "draw", x -> x.draw(0));
        leaves(check, "wipe", x -> x.wipe());
        leaves(check, "worth with other ends", x -> {
            Rows.draw(x, "111222");
            x.worth(15);
            x.worth(0);
        });
        leaves(check, "questions", x -> {
            x.letter(0, 0);
            x.size(1);
            x.ways();
            x.crossing(2);
        });
    }

    private static void refusedCallsLeaveTheLaying(Check check) {
        leaves(check, "a refused type", refused(check, x -> x.type(0, 96, 1)));
        leaves(check, "a refused type of two", refused(check, x -> x.type(0, 0x6061, 2)));
        leaves(check, "a refused cut", refused(check, x -> x.cut(0, 4)));
        leaves(check, "a refused turn", refused(check, x -> x.turn(2)));
        leaves(check, "a refused score", refused(check, x -> x.score(0, 0, 513)));
        leaves(check, "a refused score of no letter", refused(check, x -> x.score(0, 26, 5)));
        leaves(check, "refused scores", refused(check, x -> x.scores(5, 513)));
        leaves(check, "refused costs", refused(check, x -> x.costs(0, 513)));
        leaves(check, "a refused whole", refused(check, x -> x.whole(16)));
        leaves(check, "a refused worth", refused(check, x -> x.worth(16)));
        leaves(check, "a refused draw", refused(check, x -> x.draw(3)));
        leaves(check, "a refused step", refused(check, x -> x.step(9)));
        leaves(check, "a refused crossing", refused(check, x -> x.crossing(9)));
        leaves(check, "a refused run", refused(check, x -> x.run(9, 0)));
        RowAligner full = Rows.of("a".repeat(96), "a");
        full.whole(0);
        check.badState("type behind 96", () -> full.type(0, 97, 1));
        check.same("ways() after it", full.ways(), 2);
    }

    private static Consumer<RowAligner> refused(Check check, Consumer<RowAligner> call) {
        return x -> {
            int thrown = 0;
            try {
                call.accept(x);
            } catch (RuntimeException e) {
                thrown = 1;
            }
            check.same("calls that throw", thrown, 1);
        };
    }

    private static void leaves(Check check, String what, Consumer<RowAligner> call) {
        RowAligner x = laid();
        call.accept(x);
        check.same("the steps after " + what, Rows.steps(x), "000");
        check.same("the places after " + what, Rows.places(x), "0..3 0..3");
        check.same("the counts after " + what, Rows.counts(x), "1 2 0 0");
        check.same("the runs after " + what, Rows.runs(x), "0x3");
        check.same("ways() after " + what, x.ways(), 1);
        check.same("the crossings after " + what, Rows.crossings(x), "0 1 2 3");
        check.same("row A after " + what, Rows.row(x, 0), "abc");
        check.same("row B after " + what, Rows.row(x, 1), "abd");
        check.same("whole(0) after " + what, x.whole(0), 1);
    }
}
