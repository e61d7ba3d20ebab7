/** Promises 1 to 9: the steps, the figures and what is told of them. */
public final class StepsTest {
    private static final int NONE = FactFinder.NONE, BAD = FactFinder.BAD, FULL = FactFinder.FULL;
    private static final int P = 1000003;
    private static final int[] STEP_POINTS = {0, 2, 3, 4, 3, 3, 3, 2, 3, 2, 2, 4, 3, 3};
    private static final int[] WRONG = {-1, Integer.MIN_VALUE, Integer.MAX_VALUE};

    private static final Due due = new Due();

    public static void main(String[] args) {
        newObject();
        clear();
        stepsOfAllKinds();
        stepRefusals();
        change();
        draw();
        count();
        told();
        falls();
        fallsOfAllKinds();
        place();
        placesOfKinds();
        placesOfDrawnKinds();
        due.end();
    }

    /** n FREE points. */
    private static FactFinder free(int n) {
        FactFinder x = new FactFinder();
        for (int p = 0; p < n; p++) {
            due.is("step(0) of a new object", p, x.step(0, 0, 0, 0, 0));
        }
        return x;
    }

    private static void place(String what, FactFinder x, int point, int dueX, int dueY) {
        due.is(what + ": x of " + point, dueX, x.place(0, point, 0));
        due.is(what + ": y of " + point, dueY, x.place(0, point, 1));
    }

    private static void newObject() {
        FactFinder x = new FactFinder();
        due.is("new: points", 0, x.count(0));
        due.is("new: figures", 1, x.count(1));
        due.is("new: standing", 1, x.count(2));
        due.is("new: seed", 1, x.count(3));
        due.is("new: places", 0, x.count(4));
        due.is("new: falls(0)", NONE, x.falls(0));
        due.is("new: falls(1)", BAD, x.falls(1));
        for (int kind = 0; kind < 9; kind++) {
            due.is("new: facts(" + kind + ")", 0, x.facts(kind));
            due.is("new: fact(" + kind + ", 0, 0)", NONE, x.fact(kind, 0, 0));
            due.is("new: needs(" + kind + ", 0, 0)", BAD, x.needs(kind, 0, 0));
            due.is("new: holds(" + kind + ")", BAD, x.holds(kind, 0, 1, 2, 3, 4, 5));
        }
        due.is("new: row(0)", NONE, x.row(0));
        due.is("new: ring(0)", NONE, x.ring(0));
        due.is("new: clear()", 0, x.clear());
    }

    private static void clear() {
        FactFinder x = free(4);
        x.step(1, 0, 0, 0, 0);
        due.is("clear: facts(0) before", 1, x.facts(0));
        due.is("clear: draw", 3, x.draw(7, 3));
        due.is("clear()", 5, x.clear());
        due.is("clear() again", 0, x.clear());
        due.is("clear: points", 0, x.count(0));
        due.is("clear: figures stay", 3, x.count(1));
        due.is("clear: standing", 3, x.count(2));
        due.is("clear: seed stays", 7, x.count(3));
        due.is("clear: places", 0, x.count(4));
        due.is("clear: facts(0)", 0, x.facts(0));
        due.is("clear: told", BAD, x.told(0, 0));
        due.is("clear: the next point is 0", 0, x.step(0, 0, 0, 0, 0));
        due.is("clear: the state begins anew", 7 * 48271, x.place(0, 0, 0));

        FactFinder fallen = free(1);
        fallen.step(2, 0, 0, 0, 0);
        due.is("clear: falls before", 1, fallen.falls(0));
        due.is("clear: of what falls", 2, fallen.clear());
        due.is("clear: falls no more", NONE, fallen.falls(0));
    }

    private static void stepsOfAllKinds() {
        for (int kind = 0; kind < STEP_POINTS.length; kind++) {
            int points = STEP_POINTS[kind];
            String name = "step(" + kind + ", ..)";
            int[] from = {0, 1, 2, 3};
            for (int k = points; k < 4; k++) {
                from[k] = Integer.MAX_VALUE;
            }
            FactFinder x = free(4);
            due.is(name + " with what it does not need", 4, x.step(kind, from[0], from[1], from[2], from[3]));
            due.is(name + " of one point four times", 5, x.step(kind, 3, 3, 3, 3));
            for (int k = 0; k < points; k++) {
                for (int wrong : new int[] {-1, 6, 10, Integer.MIN_VALUE, Integer.MAX_VALUE}) {
                    int[] bad = {0, 1, 2, 3};
                    bad[k] = wrong;
                    due.is(name + " of " + wrong + " as " + k, BAD, x.step(kind, bad[0], bad[1], bad[2], bad[3]));
                }
            }
            due.is(name + ": points", 6, x.count(0));
        }
    }

    private static void stepRefusals() {
        FactFinder x = new FactFinder();
        due.is("step(1) of none", BAD, x.step(1, 0, 0, 0, 0));
        due.is("step(14)", BAD, x.step(14, 0, 0, 0, 0));
        for (int wrong : WRONG) {
            due.is("step(" + wrong + ")", BAD, x.step(wrong, 0, 0, 0, 0));
        }
        due.is("points after refusals", 0, x.count(0));
        FactFinder full = free(10);
        int before = full.place(0, 9, 1);
        due.is("step(0) of ten", FULL, full.step(0, 0, 0, 0, 0));
        due.is("step(1) of ten", FULL, full.step(1, 9, 9, -1, -1));
        due.is("BAD before FULL: a kind", BAD, full.step(14, 0, 0, 0, 0));
        due.is("BAD before FULL: a point", BAD, full.step(1, 10, 0, 0, 0));
        due.is("points of ten", 10, full.count(0));
        due.is("the last place of ten", before, full.place(0, 9, 1));
    }

    private static void change() {
        FactFinder x = free(3);
        x.step(1, 0, 1, 0, 0);
        due.is("change: LINE before", 1, x.holds(1, 0, 1, 3, 0, 0, 0));
        due.is("change(3, 12)", 1, x.change(3, 12, 0, 1, 2, 99));
        due.is("change: LINE behind", 0, x.holds(1, 0, 1, 3, 0, 0, 0));
        due.is("change: the kind", 12, x.told(3, 0));
        due.is("change: c", 2, x.told(3, 3));
        due.is("change: d", NONE, x.told(3, 4));
        due.is("change(3, 9)", 12, x.change(3, 9, 0, 1, -1, -1));
        due.is("change: c is none", NONE, x.told(3, 3));
        due.is("change(3, 0)", 9, x.change(3, 0, -1, -1, -1, -1));
        due.is("change: a is none", NONE, x.told(3, 1));
        for (int kind = 1; kind < STEP_POINTS.length; kind++) {
            due.is("change(0, " + kind + ")", BAD, x.change(0, kind, 0, 0, 0, 0));
            for (int k = 0; k < STEP_POINTS[kind]; k++) {
                int[] bad = {0, 1, 0, 1};
                bad[k] = 2;
                due.is("change(2, " + kind + ") by itself as " + k, BAD,
                        x.change(2, kind, bad[0], bad[1], bad[2], bad[3]));
                bad[k] = -1;
                due.is("change(2, " + kind + ") by -1 as " + k, BAD,
                        x.change(2, kind, bad[0], bad[1], bad[2], bad[3]));
            }
        }
        due.is("change(2, 14)", BAD, x.change(2, 14, 0, 0, 0, 0));
        due.is("change(2, -1)", BAD, x.change(2, -1, 0, 0, 0, 0));
        due.is("change(4, 0)", BAD, x.change(4, 0, 0, 0, 0, 0));
        due.is("change(-1, 0)", BAD, x.change(-1, 0, 0, 0, 0, 0));
        due.is("change: refused, nothing changed", 0, x.told(2, 0));

        FactFinder later = free(3);
        due.is("the fifth number", 662807, later.place(0, 2, 0));
        later.change(1, 9, 0, 0, 0, 0);
        due.is("what is drawn later moves up", 714895, later.place(0, 2, 0));
    }

    private static void draw() {
        FactFinder x = free(2);
        due.is("draw(1, 5)", 5, x.draw(1, 5));
        due.is("draw(1000000, 1)", 1, x.draw(1000000, 1));
        due.is("draw: the seed", 1000000, x.count(3));
        int[][] bad = {{0, 1}, {-1, 1}, {1000001, 1}, {1, 0}, {1, 6}, {1, -1}, {0, 0},
            {Integer.MAX_VALUE, 1}, {Integer.MIN_VALUE, 1}, {1, Integer.MAX_VALUE}, {1, Integer.MIN_VALUE}};
        for (int[] b : bad) {
            due.is("draw(" + b[0] + ", " + b[1] + ")", BAD, x.draw(b[0], b[1]));
        }
        due.is("draw: refused, the seed stays", 1000000, x.count(3));
        due.is("draw: refused, the figures stay", 1, x.count(1));
        due.is("draw: the place", (int) (1000000L * 48271 % 2147483647 % P), x.place(0, 0, 0));
        x.step(4, 0, 1, 1, 0);
        due.is("draw: none stands", 0, x.draw(3, 4));
        x.clear();
        due.is("draw: no points, all stand", 5, x.draw(3, 5));
    }

    private static void count() {
        FactFinder x = free(2);
        x.step(1, 0, 1, 0, 0);
        x.step(1, 1, 0, 0, 0);
        x.step(8, 0, 1, 1, 0);
        x.draw(12, 3);
        due.is("count(0)", 5, x.count(0));
        due.is("count(1)", 3, x.count(1));
        due.is("count(2)", 3, x.count(2));
        due.is("count(3)", 12, x.count(3));
        due.is("count(4): 3 is SAME as 2, 4 as 0", 3, x.count(4));
        due.is("count(5)", BAD, x.count(5));
        for (int wrong : WRONG) {
            due.is("count(" + wrong + ")", BAD, x.count(wrong));
        }
        x.step(3, 0, 1, 0, 2);
        due.is("count(2): none stands", 0, x.count(2));
        due.is("count(4): none stands, none is SAME", 6, x.count(4));
    }

    private static void told() {
        FactFinder x = free(5);
        for (int kind = 0; kind < STEP_POINTS.length; kind++) {
            due.is("told: change", kind == 0 ? 0 : kind - 1, x.change(4, kind, 3, 2, 1, 0));
            due.is("told: kind " + kind, kind, x.told(4, 0));
            for (int k = 1; k <= 4; k++) {
                due.is("told: " + k + " of kind " + kind, k <= STEP_POINTS[kind] ? 4 - k : NONE, x.told(4, k));
            }
            due.is("told: what = 5", BAD, x.told(4, 5));
            due.is("told: what = -1", BAD, x.told(4, -1));
        }
        due.is("told(5, 0)", BAD, x.told(5, 0));
        for (int wrong : WRONG) {
            due.is("told(" + wrong + ", 0)", BAD, x.told(wrong, 0));
            due.is("told(0, " + wrong + ")", BAD, x.told(0, wrong));
        }
    }

    private static void falls() {
        FactFinder x = free(2);
        x.step(2, 0, 1, 1, 0);
        x.step(2, 0, 1, 1, 0);
        x.step(0, 0, 0, 0, 0);
        x.draw(1, 3);
        for (int g = 0; g < 3; g++) {
            due.is("falls(" + g + ")", 2, x.falls(g));
        }
        due.is("falls(3)", BAD, x.falls(3));
        for (int wrong : WRONG) {
            due.is("falls(" + wrong + ")", BAD, x.falls(wrong));
        }
        x.change(2, 1, 0, 1, 0, 0);
        due.is("falls(0): the second that fell", 3, x.falls(0));
        x.change(3, 0, 0, 0, 0, 0);
        due.is("falls(0): none", NONE, x.falls(0));
    }

    /** Each kind of step that can fall, next to one that does not. */
    private static void fallsOfAllKinds() {
        int[][] fall = {{2, 0, 1, 1, 0}, {3, 0, 1, 0, 3}, {3, 0, 1, 1, 0}, {3, 0, 0, 1, 2}, {4, 0, 1, 3, 0},
            {4, 0, 0, 1, 0}, {5, 0, 1, 3, 0}, {5, 0, 1, 1, 0}, {6, 0, 1, 1, 0}, {11, 0, 0, 1, 2},
            {11, 0, 2, 1, 3}, {11, 0, 1, 2, 2}, {13, 1, 1, 2, 0}};
        int[][] stand = {{1, 0, 0, 0, 0}, {2, 1, 0, 1, 0}, {3, 0, 1, 0, 2}, {4, 0, 1, 2, 0}, {5, 0, 1, 2, 0},
            {6, 1, 0, 1, 0}, {7, 0, 0, 0, 0}, {8, 0, 0, 0, 0}, {9, 0, 0, 0, 0}, {10, 0, 0, 0, 0},
            {11, 0, 1, 1, 2}, {12, 0, 0, 0, 0}, {13, 0, 1, 1, 0}};
        for (int[] s : fall) {
            FactFinder x = freeAndMiddle();
            x.step(s[0], s[1], s[2], s[3], s[4]);
            due.is("falls: of kind " + s[0], 4, x.falls(0));
            due.is("falls: place of kind " + s[0], NONE, x.place(0, 4, 0));
        }
        for (int[] s : stand) {
            FactFinder x = freeAndMiddle();
            x.step(s[0], s[1], s[2], s[3], s[4]);
            due.is("stands: of kind " + s[0], NONE, x.falls(0));
        }
    }

    /** Points 0, 1, 2 are FREE, 3 is the middle of 0 and 1. */
    private static FactFinder freeAndMiddle() {
        FactFinder x = free(3);
        x.step(1, 0, 1, 0, 0);
        return x;
    }

    private static void place() {
        FactFinder x = free(3);
        place("the numbers drawn", x, 0, 48271, 605248);
        place("the numbers drawn", x, 1, 391013, 714895);
        x.draw(1, 2);
        due.is("place: the state of figure 1 begins 1000 later", 1001 * 48271 % P, x.place(1, 0, 0));
        due.is("place(2, 0, 0)", BAD, x.place(2, 0, 0));
        due.is("place(0, 3, 0)", BAD, x.place(0, 3, 0));
        due.is("place(0, 0, 2)", BAD, x.place(0, 0, 2));
        for (int wrong : WRONG) {
            due.is("place(" + wrong + ", 0, 0)", BAD, x.place(wrong, 0, 0));
            due.is("place(0, " + wrong + ", 0)", BAD, x.place(0, wrong, 0));
            due.is("place(0, 0, " + wrong + ")", BAD, x.place(0, 0, wrong));
        }
        x.change(1, 2, 0, 0, 0, 0);
        due.is("place: before what falls", 48271, x.place(0, 0, 0));
        due.is("place: of what falls", NONE, x.place(0, 1, 0));
        due.is("place: behind what falls", NONE, x.place(0, 2, 1));
        due.is("place: BAD before NONE", BAD, x.place(0, 2, 2));
    }

    /** Places worked out by hand from (48271, 605248) and (391013, 714895). */
    private static void placesOfKinds() {
        FactFinder x = free(2);
        x.step(1, 0, 1, 0, 0);
        place("middle", x, 2, 219642, 160070);
        x.change(2, 7, 0, 1, 0, 0);
        place("quarter", x, 2, 500660, 372153);
        x.change(2, 8, 0, 1, 0, 0);
        place("a + c - b", x, 2, 705532, 495601);
        x.change(2, 12, 0, 0, 1, 0);
        place("third part", x, 2, 829187, 641797);
        x.change(2, 9, 0, 1, 0, 0);
        due.is("on the line: t is the fifth number", (int) ((48271 + 662807L * (391013 - 48271)) % P),
                x.place(0, 2, 0));

        FactFinder square = free(2);
        square.step(7, 1, 0, 0, 0);
        square.step(8, 1, 0, 2, 0);
        square.step(1, 0, 3, 0, 0);
        square.step(3, 0, 3, 1, 2);
        same("where a square's diagonals meet is their middle", square, 4, 5);
        square.change(5, 4, 0, 1, 2, 0);
        same("a square's centre", square, 4, 5);
        square.change(5, 5, 0, 1, 2, 0);
        same("the heights of a right angle meet in its corner", square, 0, 5);
        square.change(5, 2, 0, 1, 2, 0);
        same("the foot of a corner on a diagonal", square, 4, 5);
        square.change(5, 6, 0, 1, 2, 0);
        same("the mirror of a corner in a diagonal", square, 3, 5);
        square.change(5, 11, 0, 4, 1, 2);
        same("the other meet of a diagonal", square, 3, 5);
        square.change(5, 13, 1, 4, 0, 0);
        same("on the circle, turned out is itself", square, 1, 5);
        square.change(5, 1, 0, 4, 0, 0);
        square.step(13, 5, 4, 0, 0);
        square.step(8, 0, 4, 0, 0);
        same("half of the way, turned out, is twice of it", square, 6, 7);
    }

    private static void same(String what, FactFinder x, int a, int b) {
        due.is(what, 1, x.holds(0, a, b, 0, 0, 0, 0));
        place(what, x, b, x.place(0, a, 0), x.place(0, a, 1));
    }

    private static void placesOfDrawnKinds() {
        FactFinder x = free(2);
        x.draw(5, 5);
        x.step(10, 0, 1, 0, 0);
        x.step(9, 0, 1, 0, 0);
        due.is("on the circle: as far", 1, x.holds(4, 0, 1, 0, 2, 0, 0));
        due.is("on the circle: elsewhere", 0, x.holds(0, 1, 2, 0, 0, 0, 0));
        due.is("on the line", 1, x.holds(1, 0, 1, 3, 0, 0, 0));
        due.is("on the line: elsewhere", 0, x.holds(0, 1, 3, 0, 0, 0, 0));
        due.is("on the circle: b plus a way along w, t the fifth number", 0, wayAcross(x));
    }

    /** With w = (1, t): the way from b to the point, across w. */
    private static int wayAcross(FactFinder x) {
        int sum = 0;
        for (int g = 0; g < 5; g++) {
            long state = 5 + 1000 * g;
            for (int i = 0; i < 5; i++) {
                state = state * 48271 % 2147483647;
            }
            long t = state % P;
            long wayX = x.place(g, 2, 0) - x.place(g, 1, 0);
            long wayY = x.place(g, 2, 1) - x.place(g, 1, 1);
            sum += (wayX * t - wayY) % P == 0 ? 0 : 1;
        }
        return sum;
    }
}
