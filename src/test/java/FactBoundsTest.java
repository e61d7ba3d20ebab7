/** The boundary cases that the sentences of the promises 10 to 15 name, each in a case of its own. */
public final class FactBoundsTest {
    private static final int NONE = Made.NONE, BAD = Made.BAD;
    private static final int MIN = Made.MIN, MAX = Made.MAX;
    private static final int SAME = 0, LINE = 1, PARALLEL = 2, RIGHT = 3, EQUAL = 4, CIRCLE = 5, MIDDLE = 6,
            AREAS = 7, RATIO = 8;

    /** Of each kind the least points that are as they must be, among them the first and the last of six. */
    private static final int[][] GOOD = {{0, 5}, {0, 1, 5}, {0, 1, 2, 5}, {0, 1, 0, 5}, {0, 5, 1, 5},
        {0, 1, 2, 5}, {5, 0, 1}, {0, 1, 2, 0, 1, 5}, {0, 1, 1, 5}};

    private static final Cases c = new Cases();

    public static void main(String[] args) {
        holdsBounds();
        holdsOrderOfFew();
        holdsOrderOfPairs();
        holdsOrderOfAreas();
        holdsNextToNot();
        holdsInFigures();
        holdsOfOnePlace();
        ratios();
        factsBounds();
        factsMost();
        factsOfFewFigures();
        toldApart();
        toldNoZero();
        toldOnePlaceInOneFigure();
        factBounds();
        factOrder();
        ratioNumbers();
        ratioOfLengthOne();
        needsBounds();
        needsAnswers();
        needsOfAllKinds();
        needsOfFigures();
        rowBounds();
        rowAnswers();
        ringBounds();
        ringAnswers();
        c.end(10, 15);
    }

    private static int[] s(int... step) {
        return Made.s(step);
    }

    private static void holds(FactFinder x, int answer, int kind, int... points) {
        c.is("holds(" + kind + ", " + java.util.Arrays.toString(points) + ")", answer,
                Made.holds(x, kind, points));
    }

    /** 0, 1 and a quarter of it, 2, with the fourth corner 3, its middle 4 and 0 once more, 5. */
    private static FactFinder square(int seed, int figures) {
        return Made.of(seed, figures, s(0), s(0), s(7, 1, 0), s(8, 1, 0, 2), s(1, 0, 3), s(1, 0, 0));
    }

    /** 0, 1 and, on their line, as many ways of 0, 1 from 0 as each point's number says. */
    private static FactFinder ruler(int points) {
        FactFinder x = Made.of(3, 3, s(0), s(0));
        for (int p = 2; p < points; p++) {
            Made.step(x, 8, p - 1, 0, 1);
        }
        return x;
    }

    /** With |01| as 1, |03| is 4, |04| is 9, |05| is 10, |06| is 5, |07| is 8, |67| is 1. */
    private static FactFinder grid() {
        return Made.of(2, 3, s(0), s(0), s(7, 1, 0), s(8, 1, 0, 1), s(8, 3, 0, 1), s(8, 4, 0, 2), s(8, 3, 0, 2),
                s(8, 6, 0, 2));
    }

    /** The point 2, on the line of 0 and 1, is 0 in figure 0 alone. */
    private static int oddSeed() {
        return Made.seedOf(5, 0);
    }

    // ---- Promise 10

    private static void holdsBounds() {
        for (int wrong : new int[] {-1, 9, MIN, MAX}) {
            c.test(10, "BAD: the KIND " + wrong, () -> {
                holds(Made.free(6), BAD, wrong, 0, 1, 2, 3, 4, 5);
                holds(new FactFinder(), BAD, wrong, 0, 1, 2, 3, 4, 5);
            });
        }
        for (int kind = 0; kind < 9; kind++) {
            int k = kind;
            for (int i = 0; i < GOOD[kind].length; i++) {
                int at = i;
                c.test(10, "BAD: of the KIND " + k + " the POINT " + at + " is not there", () -> {
                    for (int wrong : new int[] {-1, 6, 10, 15, 16, MIN, MAX}) {
                        int[] points = GOOD[k].clone();
                        points[at] = wrong;
                        holds(Made.free(6), BAD, k, points);
                    }
                });
            }
            c.test(10, "of the KIND " + k + " what it does not need counts for nothing", () -> {
                FactFinder x = Made.free(6);
                int[] r = java.util.Arrays.copyOf(GOOD[k], 6);
                for (int odd : new int[] {-1, 6, 10, 15, MIN, MAX}) {
                    java.util.Arrays.fill(r, GOOD[k].length, 6, odd);
                    c.is("with " + odd, 0, x.holds(k, r[0], r[1], r[2], r[3], r[4], r[5]));
                }
            });
            c.test(10, "of the KIND " + k + " what it does not need does not make it HOLD or not", () -> {
                FactFinder x = Made.of(1, 2, s(0), s(1, 0, 0), s(1, 0, 0), s(1, 0, 0), s(1, 0, 0), s(1, 0, 0));
                int[] r = java.util.Arrays.copyOf(GOOD[k], 6);
                for (int odd : new int[] {-1, 6, 10, 15, MIN, MAX}) {
                    java.util.Arrays.fill(r, GOOD[k].length, 6, odd);
                    c.is("with " + odd, 1, x.holds(k, r[0], r[1], r[2], r[3], r[4], r[5]));
                }
            });
            c.test(10, "the KIND " + k + " of the last POINT of ten, and of POINT 10", () -> {
                int[] points = GOOD[k].clone();
                for (int i = 0; i < points.length; i++) {
                    points[i] = points[i] == 5 ? 9 : points[i];
                }
                holds(Made.free(10), 0, k, points);
                for (int i = 0; i < points.length; i++) {
                    points[i] = points[i] == 9 ? 10 : points[i];
                }
                holds(Made.free(10), BAD, k, points);
            });
        }
        c.test(10, "BAD: of no POINTS, of too few", () -> {
            for (int kind = 0; kind < 9; kind++) {
                holds(new FactFinder(), BAD, kind, 0, 1, 2, 3, 4, 5);
                holds(Made.free(GOOD[kind].length == 6 ? 3 : 1), BAD, kind, 0, 1, 2, 3, 4, 5);
            }
        });
    }

    private static void order(int kind, boolean good, int... points) {
        holds(Made.free(6), good ? 0 : BAD, kind, points);
    }

    private static void holdsOrderOfFew() {
        c.test(10, "SAME a, b: a < b", () -> {
            order(SAME, true, 0, 1);
            order(SAME, false, 1, 1);
            order(SAME, false, 1, 0);
        });
        c.test(10, "LINE a, b, c: a < b < c", () -> {
            order(LINE, true, 0, 1, 2);
            order(LINE, false, 0, 0, 1);
            order(LINE, false, 0, 1, 1);
            order(LINE, false, 1, 0, 2);
            order(LINE, false, 0, 2, 1);
            order(LINE, false, 2, 1, 0);
        });
        c.test(10, "CIRCLE a, b, c, d: a < b < c < d", () -> {
            order(CIRCLE, true, 0, 1, 2, 3);
            order(CIRCLE, false, 0, 0, 1, 2);
            order(CIRCLE, false, 0, 1, 1, 2);
            order(CIRCLE, false, 0, 1, 2, 2);
            order(CIRCLE, false, 1, 0, 2, 3);
            order(CIRCLE, false, 0, 2, 1, 3);
            order(CIRCLE, false, 0, 1, 3, 2);
        });
        c.test(10, "MIDDLE a, b, c: b < c", () -> {
            order(MIDDLE, true, 0, 1, 2);
            order(MIDDLE, true, 1, 0, 2);
            order(MIDDLE, true, 2, 0, 1);
            order(MIDDLE, false, 0, 1, 1);
            order(MIDDLE, false, 0, 2, 1);
        });
        c.test(10, "MIDDLE a, b, c: a is neither", () -> {
            order(MIDDLE, false, 0, 0, 1);
            order(MIDDLE, false, 1, 0, 1);
        });
    }

    private static void holdsOrderOfPairs() {
        for (int kind : new int[] {PARALLEL, RIGHT, EQUAL, RATIO}) {
            c.test(10, "of the KIND " + kind + ": a < b", () -> {
                order(kind, true, 0, 1, 2, 3);
                order(kind, false, 1, 1, 2, 3);
                order(kind, false, 1, 0, 2, 3);
            });
            c.test(10, "of the KIND " + kind + ": c < d", () -> {
                order(kind, false, 0, 1, 2, 2);
                order(kind, false, 0, 1, 3, 2);
            });
            c.test(10, "of the KIND " + kind + ": a < c", () -> {
                order(kind, true, 0, 3, 1, 2);
                order(kind, true, 0, 2, 1, 3);
                order(kind, false, 1, 2, 0, 3);
                order(kind, false, 2, 3, 0, 1);
                order(kind, false, 4, 5, 3, 5);
            });
        }
        for (int kind : new int[] {RIGHT, EQUAL, RATIO}) {
            c.test(10, "of the KIND " + kind + ": or a = c and b < d", () -> {
                order(kind, true, 0, 1, 0, 2);
                order(kind, false, 0, 1, 0, 1);
                order(kind, false, 0, 2, 0, 1);
            });
            c.test(10, "of the KIND " + kind + " two may be one: b is c, b is d", () -> {
                order(kind, true, 0, 1, 1, 2);
                order(kind, true, 0, 2, 1, 2);
            });
        }
        c.test(10, "of 2 all four are different", () -> {
            order(PARALLEL, false, 0, 1, 0, 2);
            order(PARALLEL, false, 0, 1, 1, 2);
            order(PARALLEL, false, 0, 2, 1, 2);
            order(PARALLEL, false, 0, 1, 0, 1);
        });
    }

    private static void holdsOrderOfAreas() {
        c.test(10, "AREAS: a < b < c", () -> {
            order(AREAS, true, 0, 1, 2, 3, 4, 5);
            order(AREAS, false, 1, 0, 2, 3, 4, 5);
            order(AREAS, false, 0, 2, 1, 3, 4, 5);
            order(AREAS, false, 0, 0, 1, 3, 4, 5);
            order(AREAS, false, 0, 1, 1, 3, 4, 5);
        });
        c.test(10, "AREAS: d < e < f", () -> {
            order(AREAS, false, 0, 1, 2, 4, 3, 5);
            order(AREAS, false, 0, 1, 2, 3, 5, 4);
            order(AREAS, false, 0, 1, 2, 3, 3, 4);
            order(AREAS, false, 0, 1, 2, 3, 4, 4);
        });
        c.test(10, "AREAS: the row a, b, c comes before d, e, f, by its first POINT", () -> {
            order(AREAS, true, 0, 4, 5, 1, 2, 3);
            order(AREAS, false, 1, 2, 3, 0, 4, 5);
        });
        c.test(10, "AREAS: .. by its second POINT", () -> {
            order(AREAS, true, 0, 1, 5, 0, 2, 3);
            order(AREAS, false, 0, 2, 3, 0, 1, 5);
        });
        c.test(10, "AREAS: .. by its third POINT", () -> {
            order(AREAS, true, 0, 1, 2, 0, 1, 3);
            order(AREAS, false, 0, 1, 3, 0, 1, 2);
        });
        c.test(10, "AREAS: a row does not come before itself", () -> order(AREAS, false, 0, 1, 2, 0, 1, 2));
        c.test(10, "AREAS: the rows may have POINTS in common", () -> {
            order(AREAS, true, 0, 1, 2, 1, 2, 3);
            order(AREAS, true, 0, 2, 3, 1, 2, 3);
        });
    }

    /** Each kind once as it holds and once next to it. */
    private static void holdsNextToNot() {
        c.test(10, "SAME: one place; x or y alone is not enough", () -> {
            // With t = 0 the point 2 has the y of 1, and 4, turned by a quarter, the x of 3.
            FactFinder x = Made.of(oddSeed(), 1, s(0), s(0), s(10, 0, 1), s(7, 1, 0), s(7, 2, 0), s(1, 1, 1));
            c.is("y of 2", x.place(0, 1, 1), x.place(0, 2, 1));
            holds(x, 0, SAME, 1, 2);
            c.is("x of 4", x.place(0, 3, 0), x.place(0, 4, 0));
            holds(x, 0, SAME, 3, 4);
            holds(x, 1, SAME, 1, 5);
        });
        c.test(10, "LINE: ab x ac = 0", () -> {
            holds(square(1, 2), 1, LINE, 0, 3, 4);
            holds(square(1, 2), 0, LINE, 0, 1, 4);
        });
        c.test(10, "PARALLEL: ab x cd = 0", () -> {
            holds(square(1, 2), 1, PARALLEL, 0, 1, 2, 3);
            holds(square(1, 2), 1, PARALLEL, 0, 2, 1, 3);
            holds(square(1, 2), 0, PARALLEL, 0, 3, 1, 2);
            holds(ruler(4), 1, PARALLEL, 0, 1, 2, 3);
        });
        c.test(10, "RIGHT: ab . cd = 0", () -> {
            holds(square(1, 2), 1, RIGHT, 0, 1, 0, 2);
            holds(square(1, 2), 1, RIGHT, 0, 3, 1, 2);
            holds(square(1, 2), 0, RIGHT, 0, 1, 2, 3);
            holds(square(1, 2), 0, RIGHT, 0, 1, 0, 3);
        });
        c.test(10, "EQUAL: |ab| = |cd|", () -> {
            holds(square(1, 2), 1, EQUAL, 0, 1, 2, 3);
            holds(square(1, 2), 1, EQUAL, 0, 3, 1, 2);
            holds(square(1, 2), 0, EQUAL, 0, 1, 0, 3);
        });
        c.test(10, "CIRCLE: the determinant is 0: on one circle, or on one line", () -> {
            holds(square(1, 2), 1, CIRCLE, 0, 1, 2, 3);
            holds(square(1, 2), 0, CIRCLE, 0, 1, 2, 4);
            holds(ruler(4), 1, CIRCLE, 0, 1, 2, 3);
        });
        c.test(10, "MIDDLE: 2 a = b + c, modulo P", () -> {
            holds(square(1, 2), 1, MIDDLE, 4, 0, 3);
            holds(square(1, 2), 1, MIDDLE, 4, 1, 2);
            holds(square(1, 2), 0, MIDDLE, 4, 0, 1);
            holds(ruler(3), 1, MIDDLE, 1, 0, 2);
            holds(ruler(3), 0, MIDDLE, 0, 1, 2);
        });
        c.test(10, "MIDDLE: x or y alone is not enough", () -> {
            // With t = 0 the point 2 has the y of 1, and 4, turned by a quarter, the x of 3.
            FactFinder x = Made.of(oddSeed(), 1, s(0), s(0), s(10, 0, 1), s(7, 1, 0), s(7, 2, 0), s(1, 1, 1),
                    s(1, 3, 3));
            holds(x, 0, MIDDLE, 5, 1, 2);
            holds(x, 0, MIDDLE, 6, 3, 4);
        });
        c.test(10, "AREAS: squared, so whichever way round", () -> {
            holds(square(1, 2), 1, AREAS, 0, 1, 2, 0, 1, 3);
            holds(square(1, 2), 1, AREAS, 0, 1, 2, 1, 2, 3);
            holds(square(1, 2), 0, AREAS, 0, 1, 2, 0, 1, 4);
        });
        c.test(10, "RATIO: m |ab| = n |cd|", () -> {
            holds(square(1, 2), 1, RATIO, 0, 1, 0, 3);
            holds(square(1, 2), 0, RATIO, 0, 1, 0, 2);
        });
    }

    private static void holdsInFigures() {
        c.test(10, "HOLD, if they do in all FIGURES that STAND: in one of two is not enough", () -> {
            // In figure 0 alone 2 is 0; 3 is 1 turned round 0.
            int[][] steps = {s(0), s(0), s(9, 0, 1), s(7, 1, 0), s(1, 0, 1)};
            int[][] facts = {{SAME, 0, 2}, {LINE, 0, 2, 3}, {PARALLEL, 0, 2, 1, 3}, {RIGHT, 0, 2, 1, 3},
                {EQUAL, 0, 1, 1, 2}, {CIRCLE, 0, 1, 2, 3}, {MIDDLE, 4, 1, 2}, {AREAS, 0, 1, 3, 1, 2, 3},
                {RATIO, 1, 2, 1, 4}};
            for (int[] f : facts) {
                int[] points = java.util.Arrays.copyOfRange(f, 1, f.length);
                holds(Made.of(oddSeed(), 1, steps), 1, f[0], points);
                holds(Made.of(oddSeed(), 2, steps), 0, f[0], points);
                holds(Made.of(oddSeed() - 1000, 2, steps), 0, f[0], points);
            }
        });
        c.test(10, "HOLD, if they do in all FIGURES that STAND: one that FALLS is not asked", () -> {
            // In figure 0 alone 2 is 0, and 3 FALLS: 4 is made in figure 1 alone.
            FactFinder x = Made.of(oddSeed(), 2, s(0), s(0), s(9, 0, 1), s(2, 1, 0, 2), s(1, 0, 2));
            c.is("falls(0)", 3, x.falls(0));
            holds(x, 1, SAME, 1, 3);
            holds(x, 1, MIDDLE, 4, 0, 2);
            holds(x, 1, LINE, 0, 3, 4);
            holds(x, 0, SAME, 0, 2);
            holds(x, 0, EQUAL, 0, 1, 1, 2);
        });
        c.test(10, "if none STANDS, none HOLD", () -> {
            FactFinder x = Made.of(1, 2, s(0), s(1, 0, 0), s(1, 0, 0), s(1, 0, 0), s(1, 0, 0), s(1, 0, 0));
            int[][] facts = {{0, 1}, {0, 1, 2}, {0, 1, 2, 3}, {0, 1, 2, 3}, {0, 1, 2, 3}, {0, 1, 2, 3}, {0, 1, 2},
                {0, 1, 2, 3, 4, 5}, {0, 1, 2, 3}};
            for (int kind = 0; kind < 9; kind++) {
                holds(x, 1, kind, facts[kind]);
            }
            Made.step(x, 2, 0, 0, 0);
            for (int kind = 0; kind < 9; kind++) {
                holds(x, 0, kind, facts[kind]);
            }
        });
        c.test(10, "BAD is BAD, though none STANDS", () -> {
            FactFinder x = Made.of(1, 2, s(0), s(2, 0, 0, 0));
            holds(x, BAD, SAME, 0, 0);
            holds(x, BAD, SAME, 0, 2);
            holds(x, BAD, 9, 0, 1);
            holds(x, 0, SAME, 0, 1);
        });
        c.test(10, "of five FIGURES each is asked", () -> {
            // The odd figure is each of the five in turn.
            for (int g = 0; g < 5; g++) {
                int seed = oddSeed() - 1000 * g;
                holds(Made.of(seed, 5, s(0), s(0), s(9, 0, 1), s(7, 0, 1)), 0, EQUAL, 0, 1, 1, 2);
                FactFinder x = Made.of(seed, 5, s(0), s(0), s(9, 0, 1), s(2, 1, 0, 2));
                c.is("falls(" + g + ")", 3, x.falls(g));
                c.is("count(2)", 4, x.count(2));
                holds(x, 1, SAME, 1, 3);
            }
        });
    }

    private static void holdsOfOnePlace() {
        c.test(10, "POINTS that are SAME HOLD facts, too, though these are not TOLD", () -> {
            FactFinder x = square(1, 3);
            holds(x, 1, LINE, 0, 1, 5);
            holds(x, 1, PARALLEL, 0, 5, 1, 2);
            holds(x, 1, RIGHT, 0, 5, 1, 2);
            holds(x, 1, EQUAL, 0, 1, 1, 5);
            holds(x, 1, CIRCLE, 0, 1, 4, 5);
            holds(x, 0, MIDDLE, 1, 0, 5);
            holds(x, 1, AREAS, 0, 1, 2, 1, 2, 5);
        });
        c.test(10, "MIDDLE of two POINTS of one place", () -> {
            FactFinder x = Made.of(1, 3, s(0), s(1, 0, 0), s(1, 0, 0), s(0));
            holds(x, 1, MIDDLE, 0, 1, 2);
            holds(x, 0, MIDDLE, 3, 1, 2);
        });
        c.test(10, "AREAS that are both 0", () -> holds(ruler(6), 1, AREAS, 0, 1, 2, 3, 4, 5));
    }

    private static void ratios() {
        c.test(10, "RATIO: m, n of 1 .. 9: four times and nine times as much, not sixteen", () -> {
            FactFinder x = ruler(10);
            holds(x, 1, RATIO, 0, 1, 0, 2);
            holds(x, 1, RATIO, 0, 1, 0, 3);
            holds(x, 0, RATIO, 0, 1, 0, 4);
            holds(x, 1, RATIO, 0, 2, 1, 2);
            holds(x, 1, RATIO, 0, 3, 2, 3);
            holds(x, 0, RATIO, 0, 4, 3, 4);
            holds(x, 1, RATIO, 0, 2, 0, 3);
            holds(x, 0, RATIO, 0, 3, 0, 5);
        });
        c.test(10, "RATIO: m, n of 1 .. 9: eight, nine, not ten", () -> {
            FactFinder x = grid();
            holds(x, 1, RATIO, 0, 1, 0, 7);
            holds(x, 1, RATIO, 0, 1, 0, 4);
            holds(x, 0, RATIO, 0, 1, 0, 5);
            holds(x, 1, RATIO, 0, 4, 0, 7);
            holds(x, 0, RATIO, 0, 4, 0, 5);
            holds(x, 1, RATIO, 0, 3, 0, 5);
        });
        c.test(10, "RATIO: not both the same: what is EQUAL is none", () -> {
            holds(square(2, 3), 1, EQUAL, 0, 1, 0, 2);
            holds(square(2, 3), 0, RATIO, 0, 1, 0, 2);
        });
        c.test(10, "RATIO of two lengths that are 0 HOLDS, of one that is 0 does not", () -> {
            FactFinder x = Made.of(2, 3, s(0), s(1, 0, 0), s(0), s(1, 2, 2));
            holds(x, 1, RATIO, 0, 1, 2, 3);
            holds(x, 0, RATIO, 0, 1, 0, 2);
            holds(x, 0, RATIO, 0, 2, 2, 3);
        });
        c.test(10, "RATIO with lengths that are 0 in one FIGURE: the others say", () -> {
            FactFinder x = Made.of(oddSeed(), 2, s(0), s(0), s(9, 0, 1), s(1, 0, 2));
            holds(x, 1, RATIO, 0, 2, 0, 3);
            holds(x, 0, RATIO, 0, 1, 0, 2);
        });
    }

    // ---- Promise 11

    private static void factsBounds() {
        for (int wrong : new int[] {-1, 9, MIN, MAX}) {
            c.test(11, "BAD: the KIND " + wrong, () -> {
                c.is("with points", BAD, square(1, 1).facts(wrong));
                c.is("without", BAD, new FactFinder().facts(wrong));
            });
        }
        for (int kind = 0; kind < 9; kind++) {
            int k = kind;
            c.test(11, "none is TOLD of the KIND " + k, () -> {
                c.is("of no points", 0, new FactFinder().facts(k));
                c.is("of one", 0, Made.free(1).facts(k));
                FactFinder x = Made.free(10);
                x.draw(1, 5);
                c.is("of ten FREE ones", 0, x.facts(k));
            });
            c.test(11, "if no FIGURE STANDS, none is TOLD of the KIND " + k, () -> {
                FactFinder x = square(1, 2);
                c.isTrue("one was", x.facts(k) > 0);
                Made.step(x, 4, 0, 0, 0);
                c.is("none is", 0, x.facts(k));
                Made.change(x, 6, 0);
                c.isTrue("one is again", x.facts(k) > 0);
            });
        }
    }

    private static void factsMost() {
        c.test(11, "all that ten POINTS of one place can have", () -> {
            FactFinder x = Made.of(8, 5, s(0));
            for (int p = 1; p < 10; p++) {
                Made.step(x, 1, 0, 0);
            }
            c.is("SAME", 45, x.facts(SAME));
            for (int kind = 1; kind < 9; kind++) {
                c.is("the KIND " + kind, 0, x.facts(kind));
            }
        });
        c.test(11, "all that ten POINTS of one line can have", () -> {
            FactFinder x = ruler(10);
            c.is("SAME", 0, x.facts(SAME));
            c.is("LINE", 120, x.facts(LINE));
            c.is("PARALLEL", 630, x.facts(PARALLEL));
            c.is("RIGHT", 0, x.facts(RIGHT));
            // Lengths 1 to 9, of which there are 9 to 1: 36 + 28 + .. + 1.
            c.is("EQUAL", 120, x.facts(EQUAL));
            c.is("CIRCLE", 210, x.facts(CIRCLE));
            c.is("MIDDLE", 8 + 6 + 4 + 2, x.facts(MIDDLE));
            c.is("AREAS", 0, x.facts(AREAS));
            // 1 to 2 and 3, 2 to 3 and so on: pairs of lengths with the squares' quotient in 1 .. 9.
            c.is("RATIO", 9 * 8 + 8 * 6 + 7 * 4 + 6 * 2 + 9 * 7 + 8 * 4 + 7 + 8 * 7 + 6 * 4 + 4, x.facts(RATIO));
        });
        c.test(11, "all that three POINTS can have", () -> {
            c.is("LINE", 1, ruler(3).facts(LINE));
            c.is("MIDDLE", 1, ruler(3).facts(MIDDLE));
            c.is("EQUAL", 1, ruler(3).facts(EQUAL));
            c.is("RATIO", 2, ruler(3).facts(RATIO));
            c.is("PARALLEL", 0, ruler(3).facts(PARALLEL));
            c.is("CIRCLE", 0, ruler(3).facts(CIRCLE));
        });
        c.test(11, "many AREAS: six corners, two by three", () -> {
            FactFinder x = Made.of(8, 5, s(0), s(0), s(0), s(8, 1, 0, 2), s(8, 2, 0, 2), s(8, 3, 0, 2));
            c.is("AREAS", areasOfSixCorners(), x.facts(AREAS));
        });
    }

    private static void factsOfFewFigures() {
        int[][] steps = {s(0), s(0), s(7, 1, 0), s(8, 1, 0, 2), s(1, 0, 3), s(1, 0, 0)};
        c.test(11, "TOLD of one FIGURE as of five", () -> {
            for (int kind = 0; kind < 9; kind++) {
                tells(Made.of(7, 1, steps), kind, Made.told(Made.of(7, 5, steps), kind));
            }
        });
        c.test(11, "TOLD of those that STAND alone: the first, the last of five", () -> {
            // 2 is 0 in one figure alone; 3 FALLS in that one.
            int[][] odd = {s(0), s(0), s(9, 0, 1), s(2, 1, 0, 2), s(7, 1, 0), s(8, 1, 0, 4)};
            for (int kind = 0; kind < 9; kind++) {
                String all = Made.told(Made.of(7, 5, odd), kind);
                tells(Made.of(oddSeed(), 2, odd), kind, all);
                tells(Made.of(oddSeed() - 1000, 2, odd), kind, all);
                tells(Made.of(oddSeed() - 4000, 5, odd), kind, all);
            }
        });
        c.test(11, "AREAS of the last of ten POINTS, when no three are in a LINE", () ->
                tells(Made.of(1, 2, s(0), s(0), s(0), s(0), s(0), s(0), s(0), s(0), s(0), s(8, 7, 6, 8)), AREAS,
                        "678679 678689 678789 679689 679789 689789"));
    }

    private static int areasOfSixCorners() {
        int[][] at = {{0, 0}, {1, 0}, {0, 1}, {1, 1}, {0, 2}, {1, 2}};
        int[] many = new int[9];
        for (int a = 0; a < 6; a++) {
            for (int b = a + 1; b < 6; b++) {
                for (int e = b + 1; e < 6; e++) {
                    many[Math.abs((at[b][0] - at[a][0]) * (at[e][1] - at[a][1])
                            - (at[b][1] - at[a][1]) * (at[e][0] - at[a][0]))]++;
                }
            }
        }
        int pairs = 0;
        for (int area = 1; area < 9; area++) {
            pairs += many[area] * (many[area] - 1) / 2;
        }
        return pairs;
    }

    private static void tells(FactFinder x, int kind, String all) {
        c.is("told of the KIND " + kind, all, Made.told(x, kind));
    }

    private static void toldApart() {
        c.test(11, "but of KIND 0 all that HOLD", () ->
                tells(Made.of(1, 2, s(0), s(1, 0, 0), s(0), s(1, 0, 1), s(1, 2, 2)), SAME, "01 03 13 24"));
        c.test(11, "no two different POINTS are SAME: LINE", () -> {
            tells(Made.of(1, 2, s(0), s(0), s(1, 0, 0)), LINE, "");
            tells(Made.of(1, 2, s(0), s(0), s(1, 0, 0), s(1, 0, 1)), LINE, "013 123");
        });
        c.test(11, "no two different POINTS are SAME: PARALLEL", () -> {
            // 2 is 0, 3 is 1 once more: a way and itself are no PARALLEL.
            tells(Made.of(1, 2, s(0), s(0), s(1, 0, 0), s(1, 1, 1)), PARALLEL, "");
            tells(Made.of(1, 2, s(0), s(0), s(0), s(8, 1, 0, 2), s(1, 0, 0)), PARALLEL, "0123 0213 1324 1423");
        });
        c.test(11, "no two different POINTS are SAME: RIGHT; one POINT twice may be", () -> {
            tells(Made.of(1, 2, s(0), s(0), s(7, 1, 0)), RIGHT, "0102");
            tells(Made.of(1, 2, s(0), s(0), s(7, 1, 0), s(1, 0, 0)), RIGHT, "0102 1323");
        });
        c.test(11, "no two different POINTS are SAME: EQUAL; one POINT twice may be", () -> {
            tells(Made.of(1, 2, s(0), s(0), s(7, 1, 0)), EQUAL, "0102");
            tells(Made.of(1, 2, s(0), s(0), s(1, 1, 1)), EQUAL, "");
            tells(Made.of(1, 2, s(0), s(0), s(7, 1, 0), s(1, 0, 0)), EQUAL, "0102 1323");
        });
        c.test(11, "no two different POINTS are SAME: CIRCLE", () -> {
            tells(Made.of(1, 2, s(0), s(0), s(0), s(1, 0, 0)), CIRCLE, "");
            tells(square(1, 2), CIRCLE, "0123 1235");
        });
        c.test(11, "no two different POINTS are SAME: MIDDLE", () -> {
            tells(Made.of(1, 2, s(0), s(1, 0, 0), s(1, 0, 0)), MIDDLE, "");
            tells(Made.of(1, 2, s(0), s(0), s(1, 0, 1), s(1, 0, 1)), MIDDLE, "201 301");
        });
        c.test(11, "no two different POINTS are SAME: AREAS", () -> {
            // 3 is 0 once more: 012 and 123 are one triangle; 4 makes 012 to a parallelogram.
            tells(Made.of(1, 2, s(0), s(0), s(0), s(1, 0, 0)), AREAS, "");
            tells(Made.of(1, 2, s(0), s(0), s(0), s(1, 0, 0), s(8, 1, 0, 2)), AREAS,
                    "012014 012024 012124 014024 014124 024124 123124 123134 123234 124134 124234 134234");
        });
        c.test(11, "no two different POINTS are SAME: RATIO", () -> {
            tells(Made.of(1, 2, s(0), s(0), s(8, 1, 0, 1)), RATIO, "010241 021214");
            tells(Made.of(1, 2, s(0), s(0), s(8, 1, 0, 1), s(1, 0, 0)), RATIO, "010241 021214 122341 132341");
        });
    }

    private static void toldNoZero() {
        c.test(11, "no area is 0: AREAS of one line HOLD, but none is TOLD", () -> {
            holds(ruler(6), 1, AREAS, 0, 1, 2, 3, 4, 5);
            tells(ruler(6), AREAS, "");
        });
        c.test(11, "no area is 0: those of a line are left out, others are TOLD", () -> {
            // 2 is the middle of 0 and 1; 3 is off their line.
            FactFinder x = Made.of(1, 3, s(0), s(0), s(1, 0, 1), s(0));
            holds(x, 0, AREAS, 0, 1, 2, 0, 1, 3);
            tells(x, AREAS, "023123");
        });
        c.test(11, "no length is 0: what HOLDS by a length of 0 is not TOLD", () -> {
            FactFinder x = Made.of(1, 3, s(0), s(0), s(1, 0, 0), s(1, 1, 1));
            int[][] facts = {{PARALLEL, 0, 2, 1, 3}, {RIGHT, 0, 1, 0, 2}, {EQUAL, 0, 2, 1, 3}, {RATIO, 0, 2, 1, 3}};
            for (int[] f : facts) {
                holds(x, 1, f[0], java.util.Arrays.copyOfRange(f, 1, f.length));
                tells(x, f[0], "");
            }
        });
    }

    private static void toldOnePlaceInOneFigure() {
        int[][] steps = {s(0), s(0), s(9, 0, 1), s(1, 0, 2), s(0), s(8, 1, 0, 4), s(7, 1, 0)};
        c.test(11, "0 in all FIGURES that STAND: in one of two does not matter: lengths", () -> {
            FactFinder x = Made.of(oddSeed(), 2, steps);
            c.is("x of 2 in figure 0", x.place(0, 0, 0), x.place(0, 2, 0));
            c.isTrue("PARALLEL", (" " + Made.told(x, PARALLEL) + " ").contains(" 0245 "));
            c.isTrue("RIGHT", (" " + Made.told(x, RIGHT) + " ").contains(" 0206 "));
            c.isTrue("EQUAL", (" " + Made.told(x, EQUAL) + " ").contains(" 0323 "));
            c.isTrue("RATIO", (" " + Made.told(x, RATIO) + " ").contains(" 020314 "));
        });
        c.test(11, "0 in all FIGURES that STAND: in one of one it is 0 in all", () -> {
            FactFinder x = Made.of(oddSeed(), 1, steps);
            c.isTrue("PARALLEL", !(" " + Made.told(x, PARALLEL) + " ").contains(" 0245 "));
            c.isTrue("RIGHT", !(" " + Made.told(x, RIGHT) + " ").contains(" 0206 "));
            c.isTrue("EQUAL", !(" " + Made.told(x, EQUAL) + " ").contains(" 0323 "));
            c.isTrue("RATIO", !(" " + Made.told(x, RATIO) + " ").contains(" 020314 "));
        });
        c.test(11, "0 in all FIGURES that STAND: in one of two does not matter: areas", () -> {
            tells(Made.of(oddSeed(), 2, s(0), s(0), s(9, 0, 1), s(1, 0, 2), s(0)), AREAS, "034234");
            tells(Made.of(oddSeed(), 1, s(0), s(0), s(9, 0, 1), s(1, 0, 2), s(0)), AREAS, "");
        });
        c.test(11, "SAME in one of two FIGURES is not SAME: LINE, MIDDLE, CIRCLE", () -> {
            int[][] line = {s(0), s(0), s(9, 0, 1), s(1, 0, 2)};
            tells(Made.of(oddSeed(), 2, line), LINE, "012 013 023 123");
            tells(Made.of(oddSeed(), 1, line), LINE, "");
            tells(Made.of(oddSeed(), 2, line), MIDDLE, "302");
            tells(Made.of(oddSeed(), 1, line), MIDDLE, "");
            tells(Made.of(oddSeed(), 2, line), CIRCLE, "0123");
            tells(Made.of(oddSeed(), 1, line), CIRCLE, "");
        });
        c.test(11, "what HOLDS in one FIGURE of one is TOLD; in one of two it is not", () -> {
            // In figure 0 alone 2 is 0, so that 1 and its mirror 3 in 0 are as far from 2.
            int[][] mirror = {s(0), s(0), s(9, 0, 1), s(8, 0, 1, 0)};
            tells(Made.of(oddSeed(), 1, mirror), EQUAL, "0103 1223");
            tells(Made.of(oddSeed(), 2, mirror), EQUAL, "0103");
            tells(Made.of(oddSeed(), 1, mirror), SAME, "02");
            tells(Made.of(oddSeed(), 2, mirror), SAME, "");
        });
    }

    // ---- Promise 12

    private static void factBounds() {
        for (int wrong : new int[] {-1, 9, MIN, MAX}) {
            c.test(12, "BAD: the KIND " + wrong + ", before NONE", () -> {
                c.is("fact(.., 0, 0)", BAD, square(1, 1).fact(wrong, 0, 0));
                c.is("fact(.., -1, 0)", BAD, square(1, 1).fact(wrong, -1, 0));
                c.is("fact(.., 0, -1)", BAD, square(1, 1).fact(wrong, 0, -1));
                c.is("of no points", BAD, new FactFinder().fact(wrong, 0, 0));
            });
        }
        for (int kind = 0; kind < 9; kind++) {
            int k = kind;
            c.test(12, "NONE: of the KIND " + k + " there is no such i", () -> {
                FactFinder x = square(1, 2);
                int size = x.facts(k);
                c.isTrue("some are told", size > 0);
                c.isTrue("the first", x.fact(k, 0, 0) >= 0);
                c.isTrue("the last", x.fact(k, size - 1, 0) >= 0);
                for (int wrong : new int[] {-1, size, size + 1, MIN, MAX}) {
                    c.is("fact(" + k + ", " + wrong + ", 0)", NONE, x.fact(k, wrong, 0));
                }
            });
            c.test(12, "NONE: of the KIND " + k + " there is no such k", () -> {
                FactFinder x = square(1, 2);
                for (int i = 0; i < Made.FACT_WIDTH[k]; i++) {
                    c.isTrue("fact(" + k + ", 0, " + i + ")", x.fact(k, 0, i) >= 0);
                }
                for (int wrong : new int[] {-1, Made.FACT_WIDTH[k], 6, 7, 8, 32, MIN, MAX}) {
                    c.is("fact(" + k + ", 0, " + wrong + ")", NONE, x.fact(k, 0, wrong));
                }
            });
            c.test(12, "NONE: of the KIND " + k + " none is TOLD", () -> {
                c.is("of no points", NONE, new FactFinder().fact(k, 0, 0));
                c.is("of ten FREE ones", NONE, Made.of(1, 2, s(0), s(0), s(0), s(0), s(0), s(0), s(0), s(0), s(0),
                        s(0)).fact(k, 0, 0));
                FactFinder x = square(1, 2);
                Made.step(x, 2, 0, 0, 0);
                c.is("of none that stands", NONE, x.fact(k, 0, 0));
            });
        }
    }

    private static void factOrder() {
        c.test(12, "POINT k (from 0): as the FACT has them, and each FACT as holds() wants it", () -> {
            for (int kind = 0; kind < 9; kind++) {
                FactFinder x = square(1, 2);
                int size = Math.min(x.facts(kind), 60);
                for (int i = 0; i < size; i++) {
                    int[] points = new int[Made.FACT_POINTS[kind]];
                    for (int k = 0; k < points.length; k++) {
                        points[k] = x.fact(kind, i, k);
                    }
                    holds(x, 1, kind, points);
                }
            }
        });
        c.test(12, "They are in order by their first POINT that differs", () -> {
            for (int kind = 0; kind < 9; kind++) {
                FactFinder x = triangle();
                int size = Math.min(x.facts(kind), 80);
                String last = "";
                for (int i = 0; i < size; i++) {
                    StringBuilder fact = new StringBuilder();
                    for (int k = 0; k < Made.FACT_POINTS[kind]; k++) {
                        fact.append(x.fact(kind, i, k));
                    }
                    c.isTrue(last + " before " + fact, last.compareTo(fact.toString()) < 0);
                    last = fact.toString();
                }
            }
        });
        c.test(12, "in order: MIDDLE by a, then b, then c", () -> {
            // 0 is the middle of 1, 2 and of 3, 4; 5 is that of 0 and 1.
            FactFinder x = Made.of(1, 3, s(0), s(0), s(8, 0, 1, 0), s(0), s(8, 0, 3, 0), s(1, 0, 1));
            tells(x, MIDDLE, "012 034 501");
        });
        c.test(12, "in order: PARALLEL by a, b, c, d", () ->
                tells(Made.of(1, 3, s(0), s(0), s(0), s(8, 1, 0, 2), s(8, 3, 0, 1)), PARALLEL,
                        "0123 0124 0134 0213 0314"));
    }

    /** A triangle 0, 1, 2 with its centre, heights, third part, three middles and a foot. */
    private static FactFinder triangle() {
        return Made.of(1, 5, s(0), s(0), s(0), s(4, 0, 1, 2), s(5, 0, 1, 2), s(12, 0, 1, 2), s(1, 0, 1),
                s(2, 2, 0, 1), s(1, 0, 2), s(1, 1, 2));
    }

    private static void numbers(FactFinder x, int m, int n, int... points) {
        int size = x.facts(RATIO);
        for (int i = 0; i < size; i++) {
            int k = 0;
            while (k < 4 && x.fact(RATIO, i, k) == points[k]) {
                k++;
            }
            if (k == 4) {
                c.is("m of " + java.util.Arrays.toString(points), m, x.fact(RATIO, i, 4));
                c.is("n of " + java.util.Arrays.toString(points), n, x.fact(RATIO, i, 5));
                return;
            }
        }
        c.isTrue(java.util.Arrays.toString(points) + " is told", false);
    }

    private static void ratioNumbers() {
        c.test(12, "of RATIO also its NUMBERS as 4 and 5: m |ab| = n |cd|", () -> {
            numbers(grid(), 4, 1, 0, 1, 0, 3);
            numbers(grid(), 1, 4, 0, 3, 1, 3);
            numbers(grid(), 9, 4, 0, 3, 0, 4);
            numbers(square(1, 2), 1, 2, 0, 1, 0, 4);
        });
        c.test(12, "m, n of 1 .. 9: the greatest", () -> {
            numbers(grid(), 9, 1, 0, 1, 0, 4);
            numbers(grid(), 1, 9, 0, 4, 3, 4);
            numbers(grid(), 8, 9, 0, 4, 0, 7);
            numbers(grid(), 8, 1, 0, 1, 0, 7);
        });
        c.test(12, "the least m, then the least n: 2, 1, not 4, 2; 1, 2, not 2, 4; 5, 2", () -> {
            numbers(grid(), 2, 1, 0, 3, 0, 7);
            numbers(grid(), 1, 2, 0, 5, 0, 6);
            numbers(grid(), 5, 2, 0, 3, 0, 5);
            numbers(grid(), 8, 5, 0, 6, 0, 7);
            numbers(square(1, 2), 2, 1, 0, 1, 0, 3);
        });
        c.test(12, "its NUMBERS in all FIGURES, though both lengths are 0 in the first", () -> {
            FactFinder x = Made.of(oddSeed(), 2, s(0), s(0), s(9, 0, 1), s(1, 0, 2));
            tells(x, RATIO, "020314 022314");
            FactFinder y = Made.of(Made.seedOf(7, 0), 2, s(0), s(0), s(0), s(9, 1, 2), s(1, 1, 3));
            tells(y, RATIO, "131414 133414");
        });
    }

    /** The least seed with which |23|, of FREE points, is 1 in figure 0. */
    private static int seedOfOne() {
        for (int seed = 1; seed <= 1000000; seed++) {
            long wayX = Made.drawn(seed, 7) - Made.drawn(seed, 5);
            long wayY = Made.drawn(seed, 8) - Made.drawn(seed, 6);
            if ((wayX * wayX + wayY * wayY) % Made.P == 1) {
                return seed;
            }
        }
        throw new IllegalStateException("no seed draws a length of 1");
    }

    private static void ratioOfLengthOne() {
        c.test(10, "RATIO, when a length is 1, asked first of all", () -> {
            holds(Made.of(seedOfOne(), 1, s(0), s(0), s(0), s(0), s(8, 3, 2, 3)), 1, RATIO, 2, 3, 2, 4);
            holds(Made.of(seedOfOne(), 1, s(0), s(0), s(0), s(0), s(7, 3, 2)), 0, RATIO, 2, 3, 2, 4);
        });
        c.test(12, "its NUMBERS, when a length is 1, asked anew after others", () -> {
            FactFinder x = Made.of(seedOfOne(), 1, s(0), s(0), s(0), s(0), s(8, 3, 2, 3));
            tells(x, RATIO, "232441 243414");
            Made.change(x, 4, 1, 2, 3);
            tells(x, RATIO, "232414 233414");
            Made.change(x, 4, 8, 3, 2, 3);
            tells(x, RATIO, "232441 243414");
        });
    }

    // ---- Promise 13

    private static void needsBounds() {
        for (int wrong : new int[] {-1, 9, MIN, MAX}) {
            c.test(13, "BAD: the KIND " + wrong + ", before NONE", () -> {
                c.is("needs(.., 0, 0)", BAD, square(1, 1).needs(wrong, 0, 0));
                c.is("needs(.., -1, 0)", BAD, square(1, 1).needs(wrong, -1, 0));
                c.is("needs(.., 0, -1)", BAD, square(1, 1).needs(wrong, 0, -1));
            });
        }
        c.test(13, "BAD: the POINT, before NONE", () -> {
            FactFinder x = square(1, 2);
            for (int wrong : new int[] {-1, 6, 9, 10, MIN, MAX}) {
                for (int kind = 0; kind < 9; kind++) {
                    c.is("needs(" + kind + ", 0, " + wrong + ")", BAD, x.needs(kind, 0, wrong));
                    c.is("needs(" + kind + ", -1, " + wrong + ")", BAD, x.needs(kind, -1, wrong));
                }
            }
            c.is("of no points", BAD, new FactFinder().needs(LINE, 0, 0));
            c.is("needs(1, 0, 10) of ten", BAD, ruler(10).needs(LINE, 0, 10));
        });
        for (int kind = 0; kind < 9; kind++) {
            int k = kind;
            c.test(13, "NONE: there is none such of the KIND " + k, () -> {
                FactFinder x = square(1, 2);
                int size = x.facts(k);
                c.isTrue("the last", x.needs(k, size - 1, 5) >= 0);
                for (int wrong : new int[] {-1, size, size + 1, MIN, MAX}) {
                    c.is("needs(" + k + ", " + wrong + ", 5)", NONE, x.needs(k, wrong, 5));
                }
                c.is("of FREE ones", NONE, Made.of(1, 2, s(0), s(0), s(0)).needs(k, 0, 0));
            });
        }
        c.test(13, "NONE: no FIGURE STANDS", () -> {
            FactFinder x = Made.of(1, 2, s(0), s(0), s(1, 0, 1), s(2, 0, 1, 1));
            for (int p = 0; p < 4; p++) {
                c.is("needs(1, 0, " + p + ")", NONE, x.needs(LINE, 0, p));
            }
        });
    }

    private static void need(FactFinder x, int kind, int i, String all) {
        c.is("needs(" + kind + ", " + i + ", ..)", all, Made.needs(x, kind, i));
    }

    private static void needsAnswers() {
        c.test(13, "a STEP that is FREE is never needed", () -> need(ruler(3), LINE, 0, "001"));
        c.test(13, "a STEP that the FACT is not made by is not needed, be it before or behind", () -> {
            FactFinder x = Made.of(1, 3, s(0), s(0), s(7, 1, 0), s(1, 0, 1), s(7, 1, 0));
            tells(x, LINE, "013");
            need(x, LINE, 0, "00010");
        });
        c.test(13, "STEPS that its POINTS are made through are needed, or not, as it HOLDS then", () -> {
            // 2 is the middle of 0 and 1, 3 that of 0 and 2.
            FactFinder x = Made.of(1, 3, s(0), s(0), s(1, 0, 1), s(1, 0, 2));
            tells(x, LINE, "012 013 023 123");
            need(x, LINE, 0, "0010");
            need(x, LINE, 1, "0011");
            need(x, LINE, 2, "0001");
            need(x, LINE, 3, "0011");
        });
        c.test(13, "the last of ten POINTS", () -> {
            FactFinder x = ruler(10);
            c.is("LINE 0, 1, 9 needs 9", 1, x.needs(LINE, 7, 9));
            c.is("LINE 0, 1, 9 needs 8", 1, x.needs(LINE, 7, 8));
            c.is("LINE 0, 1, 2 needs 9", 0, x.needs(LINE, 0, 9));
        });
        c.test(13, "asking changes nothing", () -> {
            FactFinder x = square(1, 2);
            String before = Made.view(x);
            Made.needs(x, CIRCLE, 0);
            Made.needs(x, RATIO, 0);
            c.is("all", before, Made.view(x));
        });
    }

    private static void needsOfAllKinds() {
        c.test(13, "of SAME", () ->
                need(Made.of(1, 3, s(0), s(0), s(1, 0, 1), s(1, 0, 1)), SAME, 0, "0011"));
        c.test(13, "of LINE", () -> need(Made.of(1, 3, s(0), s(0), s(1, 0, 1)), LINE, 0, "001"));
        c.test(13, "of PARALLEL", () ->
                need(Made.of(1, 3, s(0), s(0), s(0), s(8, 1, 0, 2)), PARALLEL, 0, "0001"));
        c.test(13, "of RIGHT", () -> need(Made.of(1, 3, s(0), s(0), s(7, 1, 0)), RIGHT, 0, "001"));
        c.test(13, "of EQUAL", () -> need(Made.of(1, 3, s(0), s(0), s(7, 1, 0)), EQUAL, 0, "001"));
        c.test(13, "of CIRCLE", () ->
                need(Made.of(1, 3, s(0), s(0), s(7, 1, 0), s(8, 1, 0, 2)), CIRCLE, 0, "0011"));
        c.test(13, "of MIDDLE", () -> need(Made.of(1, 3, s(0), s(0), s(1, 0, 1)), MIDDLE, 0, "001"));
        c.test(13, "of AREAS", () ->
                need(Made.of(1, 3, s(0), s(0), s(0), s(8, 1, 0, 2)), AREAS, 0, "0001"));
        c.test(13, "of RATIO", () -> need(Made.of(1, 3, s(0), s(0), s(8, 1, 0, 1)), RATIO, 0, "001"));
    }

    /** The least seed with which three FREE points are on one line in figure 0. */
    private static int seedOfLine() {
        for (int seed = 1; seed <= 1000000; seed++) {
            long ax = Made.drawn(seed, 1);
            long ay = Made.drawn(seed, 2);
            long cross = (Made.drawn(seed, 3) - ax) * (Made.drawn(seed, 6) - ay)
                    - (Made.drawn(seed, 4) - ay) * (Made.drawn(seed, 5) - ax);
            if (cross % Made.P == 0) {
                return seed;
            }
        }
        throw new IllegalStateException("no seed draws a line");
    }

    private static void needsOfFigures() {
        c.test(13, "all is drawn anew: the STEP that is FREE then draws its x and its y", () -> {
            FactFinder x = Made.of(seedOfLine(), 1, s(0), s(0), s(1, 0, 1));
            need(x, LINE, 0, "000");
            need(x, MIDDLE, 0, "001");
        });
        c.test(13, "it does not HOLD any more, if it does in one of two FIGURES alone", () ->
                need(Made.of(seedOfLine(), 2, s(0), s(0), s(1, 0, 1)), LINE, 0, "001"));
        // With 2 FREE the next number drawn in figure 0 is 0, so that 3 is 0 there.
        int seed = Made.seedOf(7, 0);
        c.test(13, "it HOLDS still, though it would not be TOLD any more", () -> {
            FactFinder x = Made.of(seed, 1, s(0), s(0), s(1, 0, 1), s(9, 0, 1), s(1, 0, 3));
            c.is("LINE 0, 1, 3", 3, x.fact(LINE, 1, 2));
            c.is("needs(LINE, 1, 2)", 0, x.needs(LINE, 1, 2));
            c.is("RATIO 0, 3, 0, 4 is", "030414", Made.told(x, RATIO).replaceAll(".*(030414).*", "$1"));
            Made.change(x, 2, 0);
            c.is("LINE 0, 1, 3 HOLDS", 1, Made.holds(x, LINE, 0, 1, 3));
            tells(x, LINE, "");
        });
        c.test(13, "a RATIO HOLDS still, though both its lengths are 0 then", () -> {
            FactFinder x = Made.of(seed, 1, s(0), s(0), s(1, 0, 1), s(9, 0, 1), s(1, 0, 3));
            int size = x.facts(RATIO);
            for (int i = 0; i < size; i++) {
                if (x.fact(RATIO, i, 1) == 3 && x.fact(RATIO, i, 2) == 0 && x.fact(RATIO, i, 3) == 4) {
                    need(x, RATIO, i, "00001");
                }
            }
        });
        c.test(13, "no FIGURE STANDS then: it does not HOLD any more", () -> {
            FactFinder x = Made.of(seed, 1, s(0), s(0), s(1, 0, 1), s(9, 0, 1), s(2, 2, 0, 3));
            c.is("count(2)", 1, x.count(2));
            c.is("LINE 0, 1, 3", 3, x.fact(LINE, 1, 2));
            c.is("needs(LINE, 1, 2)", 1, x.needs(LINE, 1, 2));
        });
        c.test(13, "one FIGURE FALLS then, the other one says", () -> {
            FactFinder x = Made.of(seed, 2, s(0), s(0), s(1, 0, 1), s(9, 0, 1), s(2, 2, 0, 3));
            c.is("needs(LINE, 1, 2)", 0, x.needs(LINE, 1, 2));
            c.is("needs(LINE, 1, 3)", 1, x.needs(LINE, 1, 3));
        });
    }

    // ---- Promise 14

    private static void rowBounds() {
        c.test(14, "NONE: there are not so many: none at all", () -> {
            for (int k : new int[] {-1, 0, 1, MIN, MAX}) {
                c.is("of no points", NONE, new FactFinder().row(k));
                c.is("of two", NONE, Made.free(2).row(k));
                c.is("of three FREE ones", NONE, Made.free(3).row(k));
            }
        });
        c.test(14, "NONE: there are not so many: one, three", () -> {
            c.is("row(0)", 7, ruler(3).row(0));
            for (int k : new int[] {-1, 1, 2, MIN, MAX}) {
                c.is("row(" + k + ") of one", NONE, ruler(3).row(k));
            }
            FactFinder x = Made.of(1, 2, s(0), s(0), s(0), s(1, 1, 2), s(1, 0, 2), s(1, 0, 1));
            c.is("row(2)", 35, x.row(2));
            for (int k : new int[] {-1, 3, 4, MIN, MAX}) {
                c.is("row(" + k + ") of three", NONE, x.row(k));
            }
        });
        c.test(14, "if no FIGURE STANDS, there are none", () -> {
            FactFinder x = ruler(5);
            Made.step(x, 2, 0, 1, 1);
            c.is("row(0)", NONE, x.row(0));
            Made.change(x, 5, 0);
            c.is("row(0) again", 31, x.row(0));
        });
    }

    private static void rowAnswers() {
        c.test(14, "by rising numbers", () ->
                c.is("rows", "14 21 35", Made.rows(Made.of(1, 2, s(0), s(0), s(0), s(1, 1, 2), s(1, 0, 2),
                        s(1, 0, 1)))));
        c.test(14, "all that are in a LINE with two: one set of ten", () -> c.is("rows", "1023", Made.rows(ruler(10))));
        c.test(14, "of three places at least: two are not enough, with SAME ones neither", () -> {
            c.is("0, 1, 0, 1", "", Made.rows(Made.of(1, 2, s(0), s(0), s(1, 0, 0), s(1, 1, 1))));
            c.is("one place", "", Made.rows(Made.of(1, 2, s(0), s(1, 0, 0), s(1, 0, 0))));
            c.is("a third one", "31", Made.rows(Made.of(1, 2, s(0), s(0), s(1, 0, 0), s(1, 1, 1), s(1, 0, 1))));
        });
        c.test(14, "or SAME as one of these: as the first, the second, the third", () ->
                c.is("rows", "63", Made.rows(Made.of(1, 2, s(0), s(0), s(1, 0, 1), s(1, 0, 0), s(1, 1, 1),
                        s(1, 2, 2)))));
        c.test(14, "a POINT of two rows, and one SAME as it", () -> {
            // 0, 1, 3 and 0, 2, 4 are rows; 5 is 0 once more; 6 is in none.
            FactFinder x = Made.of(1, 2, s(0), s(0), s(0), s(1, 0, 1), s(1, 0, 2), s(1, 0, 0), s(0));
            c.is("rows", "43 53", Made.rows(x));
        });
        c.test(14, "LINE in one FIGURE alone makes no row", () -> {
            FactFinder x = Made.of(seedOfLine(), 1, s(0), s(0), s(0));
            c.is("of one figure", "7", Made.rows(x));
            x.draw(seedOfLine(), 2);
            c.is("of two", "", Made.rows(x));
        });
        c.test(14, "two that are SAME in one FIGURE alone are two places", () -> {
            int[][] steps = {s(0), s(0), s(9, 0, 1), s(0)};
            c.is("of one figure", "", Made.rows(Made.of(oddSeed(), 1, steps)));
            c.is("of two", "7", Made.rows(Made.of(oddSeed(), 2, steps)));
        });
    }

    // ---- Promise 15

    /** Two by three corners: 1, 2, 0 below 3, 4, 5. */
    private static FactFinder sixCorners() {
        return Made.of(1, 2, s(0), s(0), s(1, 0, 1), s(7, 2, 1), s(8, 2, 1, 3), s(8, 0, 1, 3));
    }

    private static void ringBounds() {
        c.test(15, "NONE: there are none at all", () -> {
            for (int k : new int[] {-1, 0, 1, MIN, MAX}) {
                c.is("of no points", NONE, new FactFinder().ring(k));
                c.is("of three", NONE, Made.free(3).ring(k));
                c.is("of four FREE ones", NONE, Made.free(4).ring(k));
            }
        });
        c.test(15, "NONE: there are not so many", () -> {
            c.is("ring(0)", 47, square(1, 2).ring(0));
            c.is("ring(1)", NONE, square(1, 2).ring(1));
            FactFinder x = sixCorners();
            c.is("ring(2)", 53, x.ring(2));
            for (int k : new int[] {-1, 3, 4, MIN, MAX}) {
                c.is("ring(" + k + ") of three", NONE, x.ring(k));
            }
        });
        c.test(15, "if no FIGURE STANDS, there are none", () -> {
            FactFinder x = square(1, 2);
            Made.step(x, 2, 0, 1, 1);
            c.is("ring(0)", NONE, x.ring(0));
            Made.change(x, 6, 0);
            c.is("ring(0) again", 47, x.ring(0));
        });
    }

    private static void ringAnswers() {
        c.test(15, "by rising numbers", () -> c.is("rings", "30 43 53", Made.rings(sixCorners())));
        c.test(15, "all in a CIRCLE with three: one set of nine, and the centre is none of it", () -> {
            FactFinder x = Made.of(1, 3, s(0));
            Made.step(x, 0);
            for (int p = 2; p < 10; p++) {
                Made.step(x, 10, 0, 1);
            }
            c.is("rings", "1022", Made.rings(x));
        });
        c.test(15, "of four places at least: three are not enough, with SAME ones neither", () -> {
            c.is("rings", "", Made.rings(Made.of(1, 2, s(0), s(0), s(0), s(1, 0, 0), s(1, 1, 1), s(1, 2, 2))));
            c.is("a fourth one", "127", Made.rings(Made.of(1, 2, s(0), s(0), s(7, 1, 0), s(1, 0, 0), s(1, 1, 1),
                    s(1, 2, 2), s(8, 1, 0, 2))));
        });
        c.test(15, "all that are SAME as one of three, or as the fourth", () ->
                c.is("rings", "63", Made.rings(Made.of(1, 2, s(0), s(0), s(7, 1, 0), s(8, 1, 0, 2), s(1, 0, 0),
                        s(1, 3, 3)))));
        c.test(15, "three that are in no LINE: POINTS of one line make no ring", () -> {
            holds(ruler(6), 1, CIRCLE, 0, 1, 2, 3);
            c.is("rings", "", Made.rings(ruler(6)));
            FactFinder x = ruler(5);
            Made.step(x, 0);
            c.is("rings with one off the line", "", Made.rings(x));
        });
        c.test(15, "CIRCLE in one FIGURE alone makes no ring", () -> {
            // 5 is the mirror of 3 in 2, which is 0, the centre of the circle, in figure 0 alone.
            int[][] steps = {s(0), s(0), s(9, 0, 1), s(7, 1, 0), s(8, 0, 1, 0), s(8, 2, 3, 2)};
            c.is("rings of one", "58", Made.rings(Made.of(oddSeed(), 1, steps)));
            c.is("rings of two", "", Made.rings(Made.of(oddSeed(), 2, steps)));
        });
        c.test(15, "SAME in one FIGURE alone makes no ring bigger", () -> {
            int[][] steps = {s(0), s(0), s(9, 0, 1), s(7, 1, 0), s(8, 1, 0, 3)};
            c.is("rings of one", "31", Made.rings(Made.of(oddSeed(), 1, steps)));
            c.is("rings of two", "27", Made.rings(Made.of(oddSeed(), 2, steps)));
        });
    }
}
