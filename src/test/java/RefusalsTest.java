import java.util.ArrayList;
import java.util.List;

/**
 * "What is refused changes nothing": each call that is refused, on objects in several states, each
 * next to a twin that is not asked. And what a call asks for and gets changes nothing, if the call
 * is one that only tells.
 */
public final class RefusalsTest {
    private static final int NONE = Made.NONE, BAD = Made.BAD, FULL = Made.FULL;
    private static final int MIN = Made.MIN, MAX = Made.MAX;
    private static final int[] OUT = {-1, 20, MIN, MAX};

    private static final Cases c = new Cases();
    private static final List<Refused> CALLS = new ArrayList<>();

    private interface Call {
        int on(FactFinder x);
    }

    private record Refused(int promise, String name, int due, Call call) {
    }

    private interface State {
        FactFinder make();
    }

    public static void main(String[] args) {
        stepsAndDrawings();
        whatIsTold();
        State[] states = {FactFinder::new, RefusalsTest::some, RefusalsTest::full, RefusalsTest::oneFalls,
            RefusalsTest::allFall};
        for (Refused r : CALLS) {
            c.test(r.promise, r.name + " is refused and changes nothing", () -> {
                for (State state : states) {
                    isRefused(r, state);
                }
            });
        }
        fullRefuses();
        callsThatTell(states);
        bothWrong();
        c.end(3, 15);
    }

    // ---- states: no more than two figures, so that two views are far less than 512 calls

    private static FactFinder some() {
        return Made.of(3, 2, Made.s(0), Made.s(0), Made.s(7, 1, 0), Made.s(8, 1, 0, 2), Made.s(1, 0, 3),
                Made.s(9, 0, 1), Made.s(1, 2, 2));
    }

    private static FactFinder full() {
        return Made.of(5, 2, Made.s(0), Made.s(0), Made.s(0), Made.s(4, 0, 1, 2), Made.s(5, 0, 1, 2),
                Made.s(12, 0, 1, 2), Made.s(1, 0, 1), Made.s(10, 3, 0), Made.s(11, 0, 6, 1, 2), Made.s(2, 3, 0, 1));
    }

    private static FactFinder oneFalls() {
        return Made.of(Made.seedOf(5, 0), 2, Made.s(0), Made.s(0), Made.s(9, 0, 1), Made.s(2, 1, 0, 2),
                Made.s(1, 0, 2));
    }

    private static FactFinder allFall() {
        return Made.of(4, 2, Made.s(0), Made.s(0), Made.s(1, 0, 1), Made.s(4, 0, 1, 2), Made.s(0));
    }

    // ---- the calls

    private static void refused(int promise, String name, int due, Call call) {
        CALLS.add(new Refused(promise, name, due, call));
    }

    private static void stepsAndDrawings() {
        for (int out : OUT) {
            refused(3, "step(" + out + ", ..)", BAD, x -> x.step(out, 0, 0, 0, 0));
            refused(4, "change(" + out + ", 0, ..)", BAD, x -> x.change(out, 0, 0, 0, 0, 0));
            refused(4, "change(0, " + out + ", ..)", BAD, x -> x.change(0, out, 0, 0, 0, 0));
            for (int kind = 1; kind < 14; kind++) {
                int k = kind;
                for (int i = 1; i <= Made.STEP_POINTS[kind]; i++) {
                    int at = i;
                    refused(3, "step(" + k + ", ..) with " + out + " as " + at, BAD, x ->
                            Made.step(x, with(k, at, out)));
                    refused(4, "change(4, " + k + ", ..) with " + out + " as " + at, BAD, x ->
                            Made.change(x, 4, with(k, at, out)));
                }
            }
        }
        refused(3, "step(14, ..)", BAD, x -> x.step(14, 0, 0, 0, 0));
        refused(4, "change(0, 14, ..)", BAD, x -> x.change(0, 14, 0, 0, 0, 0));
        for (int kind = 1; kind < 14; kind++) {
            int k = kind;
            refused(4, "change(0, " + k + ", ..)", BAD, x -> x.change(0, k, 0, 0, 0, 0));
            refused(4, "change(4, " + k + ", ..) by itself", BAD, x -> Made.change(x, 4, with(k, 1, 4)));
            refused(3, "step(" + k + ", ..) by itself", BAD, x -> Made.step(x, with(k, 1, x.count(0))));
        }
        for (int seed : new int[] {-1, 0, 1000001, MIN, MAX}) {
            refused(5, "draw(" + seed + ", 2)", BAD, x -> x.draw(seed, 2));
        }
        for (int figures : new int[] {-1, 0, 6, MIN, MAX}) {
            refused(5, "draw(9, " + figures + ")", BAD, x -> x.draw(9, figures));
        }
    }

    private static int[] with(int kind, int at, int point) {
        int[] step = {kind, 0, 1, 0, 1};
        step[at] = point;
        return step;
    }

    private static void whatIsTold() {
        for (int out : OUT) {
            refused(6, "count(" + out + ")", BAD, x -> x.count(out));
            refused(7, "told(" + out + ", 0)", BAD, x -> x.told(out, 0));
            refused(7, "told(0, " + out + ")", BAD, x -> x.told(0, out));
            refused(8, "falls(" + out + ")", BAD, x -> x.falls(out));
            refused(9, "place(" + out + ", 0, 0)", BAD, x -> x.place(out, 0, 0));
            refused(9, "place(0, " + out + ", 0)", BAD, x -> x.place(0, out, 0));
            refused(9, "place(0, 0, " + out + ")", BAD, x -> x.place(0, 0, out));
            refused(10, "holds(" + out + ", ..)", BAD, x -> x.holds(out, 0, 1, 2, 3, 4, 5));
            refused(11, "facts(" + out + ")", BAD, x -> x.facts(out));
            refused(12, "fact(" + out + ", 0, 0)", BAD, x -> x.fact(out, 0, 0));
            refused(13, "needs(" + out + ", 0, 0)", BAD, x -> x.needs(out, 0, 0));
            refused(14, "row(" + out + ")", NONE, x -> x.row(out));
            refused(15, "ring(" + out + ")", NONE, x -> x.ring(out));
            for (int kind = 0; kind < 9; kind++) {
                int k = kind;
                refused(10, "holds(" + k + ", " + out + ", ..)", BAD, x -> x.holds(k, out, 1, 2, 3, 4, 5));
                refused(13, "needs(" + k + ", 0, " + out + ")", BAD, x -> x.needs(k, 0, out));
                refused(12, "fact(" + k + ", 0, " + out + ")", NONE, x -> x.fact(k, 0, out));
                int none = out == 20 ? 7140 : out;
                refused(12, "fact(" + k + ", " + none + ", 0)", NONE, x -> x.fact(k, none, 0));
            }
        }
        for (int kind = 0; kind < 9; kind++) {
            int k = kind;
            refused(10, "holds(" + k + ", 0, 0, ..)", BAD, x -> x.holds(k, 0, 0, 0, 0, 0, 0));
        }
    }

    /** Asked before anything else was, and asked when all has been told already. */
    private static void isRefused(Refused r, State state) {
        String due = Made.view(state.make());
        FactFinder x = state.make();
        c.is(r.name, r.due, r.call.on(x));
        c.is("all after it", due, Made.view(x));
        FactFinder y = state.make();
        Made.view(y);
        c.is(r.name + " again", r.due, r.call.on(y));
        c.is("all after it", due, Made.view(y));
        FactFinder z = state.make();
        r.call.on(z);
        FactFinder twin = state.make();
        goOn(z);
        goOn(twin);
        c.is("all as it goes on", Made.view(twin), Made.view(z));
    }

    /** What comes next is drawn from what went before. */
    private static void goOn(FactFinder x) {
        Made.step(x, 0);
        Made.step(x, 9, 0, 1);
        Made.change(x, 1, 0);
    }

    private static void fullRefuses() {
        for (int kind = 0; kind < 14; kind++) {
            int k = kind;
            c.test(3, "FULL: ten are: the KIND " + k + " is refused and changes nothing", () ->
                    isRefused(new Refused(3, "step(" + k + ", ..)", FULL, x -> Made.step(x, k, 0, 1, 2, 3)),
                            RefusalsTest::full));
        }
    }

    private static void tells(int promise, String name, Call call, State[] states) {
        c.test(promise, name + " tells, and changes nothing", () -> {
            for (State state : states) {
                FactFinder x = state.make();
                int first = call.on(x);
                c.is("all after it", Made.view(state.make()), Made.view(x));
                c.is(name + " asked again", first, call.on(x));
            }
        });
    }

    private static void callsThatTell(State[] states) {
        for (int i = 0; i < 9; i++) {
            int n = i;
            tells(6, "count(" + n + ")", x -> x.count(n), states);
            tells(7, "told(1, " + n + ")", x -> x.told(1, n), states);
            tells(8, "falls(" + n + ")", x -> x.falls(n), states);
            tells(9, "place(1, " + n + ", 1)", x -> x.place(1, n, 1), states);
            tells(10, "holds(" + n + ", ..)", x -> x.holds(n, 0, 1, 2, 3, 4, 5), states);
            tells(11, "facts(" + n + ")", x -> x.facts(n), states);
            tells(12, "fact(" + n + ", 1, 1)", x -> x.fact(n, 1, 1), states);
            tells(13, "needs(" + n + ", 0, 2)", x -> x.needs(n, 0, 2), states);
            tells(14, "row(" + n + ")", x -> x.row(n), states);
            tells(15, "ring(" + n + ")", x -> x.ring(n), states);
        }
    }

    /** "BAD first": one number is BAD, and another one asks for what there is none of. */
    private static void bothWrong() {
        c.test(3, "BAD first, then FULL", () -> {
            c.is("step(14, ..)", BAD, Made.step(full(), 14));
            c.is("step(1, 10, 0)", BAD, Made.step(full(), 1, 10, 0));
            c.is("step(3, 0, 1, 2, -1)", BAD, Made.step(full(), 3, 0, 1, 2, -1));
        });
        c.test(9, "BAD first, then NONE: place", () -> {
            c.is("place(0, 3, 0)", NONE, oneFalls().place(0, 3, 0));
            c.is("place(0, 3, 2)", BAD, oneFalls().place(0, 3, 2));
            c.is("place(0, 5, 0)", BAD, oneFalls().place(0, 5, 0));
            c.is("place(2, 3, 0)", BAD, oneFalls().place(2, 3, 0));
        });
        c.test(7, "BAD first, then NONE: told", () -> {
            c.is("told(0, 4)", NONE, some().told(0, 4));
            c.is("told(0, 5)", BAD, some().told(0, 5));
            c.is("told(7, 4)", BAD, some().told(7, 4));
        });
        c.test(12, "BAD first, then NONE: fact", () -> {
            c.is("fact(8, -1, 6)", NONE, some().fact(8, -1, 6));
            c.is("fact(9, -1, 6)", BAD, some().fact(9, -1, 6));
        });
        c.test(13, "BAD first, then NONE: needs", () -> {
            c.is("needs(8, -1, 6)", NONE, some().needs(8, -1, 6));
            c.is("needs(8, -1, 7)", BAD, some().needs(8, -1, 7));
            c.is("needs(9, -1, 6)", BAD, some().needs(9, -1, 6));
        });
    }
}
