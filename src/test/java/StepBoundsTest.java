/** The boundary cases that the sentences of the promises 1 to 9 name, each in a case of its own. */
public final class StepBoundsTest {
    private static final int NONE = Made.NONE, BAD = Made.BAD, FULL = Made.FULL, P = Made.P;
    private static final int MIN = Made.MIN, MAX = Made.MAX;

    private static final Cases c = new Cases();

    public static void main(String[] args) {
        newObject();
        lastCall();
        clear();
        toldAnew();
        stepNumbers();
        stepRefusals();
        changeAnswers();
        changeRefusals();
        drawBounds();
        drawAnswers();
        count();
        told();
        falls();
        fallsOfLines();
        fallsOfCircles();
        placeBounds();
        placesDrawn();
        placesThatWrap();
        placesOfOneTooFar();
        placesOfOnePoint();
        placesAtTheEdge();
        c.end(1, 9);
    }

    private static int[] s(int... step) {
        return Made.s(step);
    }

    // ---- Promise 1

    private static void newObject() {
        c.test(1, "No POINTS", () -> {
            FactFinder x = new FactFinder();
            c.is("count(0)", 0, x.count(0));
            c.is("count(4)", 0, x.count(4));
            c.is("told(0, 0)", BAD, x.told(0, 0));
            c.is("place(0, 0, 0)", BAD, x.place(0, 0, 0));
            c.is("change(0, 0, ..)", BAD, Made.change(x, 0, 0));
            c.is("step(1, 0, 0, ..)", BAD, Made.step(x, 1, 0, 0));
            c.is("holds(0, 0, 1)", BAD, Made.holds(x, 0, 0, 1));
        });
        c.test(1, "SEED 1", () -> {
            FactFinder x = new FactFinder();
            c.is("count(3)", 1, x.count(3));
            c.is("step(0, ..)", 0, Made.step(x, 0));
            c.is("place(0, 0, 0)", 48271, x.place(0, 0, 0));
        });
        c.test(1, "one FIGURE", () -> {
            FactFinder x = new FactFinder();
            c.is("count(1)", 1, x.count(1));
            c.is("count(2)", 1, x.count(2));
            c.is("falls(0)", NONE, x.falls(0));
            c.is("falls(1)", BAD, x.falls(1));
        });
        c.test(1, "a new object is new, whatever another one has", () -> {
            FactFinder other = Made.of(9, 5, s(0), s(0), s(1, 0, 1));
            String before = Made.view(other);
            c.is("a second one", Made.view(new FactFinder()), Made.view(new FactFinder()));
            c.is("its points", 0, new FactFinder().count(0));
            c.is("the other one", before, Made.view(other));
        });
    }

    private static void lastCall() {
        c.test(1, "An object is used for at most 512 calls: the last one answers, too", () -> {
            FactFinder x = Made.of(3, 2, square(7));
            int calls = 8;
            while (calls < 511) {
                Made.change(x, 4, calls % 2 == 0 ? 0 : 1, 0, 3);
                x.facts(calls % 9);
                x.clear();
                for (int[] step : square(7)) {
                    Made.step(x, step);
                }
                calls += 10;
                while (calls > 501 && calls < 511) {
                    x.row(0);
                    calls++;
                }
            }
            c.is("the calls so far", 511, calls);
            c.is("facts(5), call 512", 2, x.facts(5));
        });
    }

    // ---- Promise 2

    private static void clear() {
        c.test(2, "how many there were: none", () -> {
            FactFinder x = new FactFinder();
            c.is("clear()", 0, x.clear());
            c.is("clear() again", 0, x.clear());
        });
        c.test(2, "how many there were: one", () -> c.is("clear()", 1, Made.free(1).clear()));
        c.test(2, "how many there were: ten, and then it is not FULL", () -> {
            FactFinder x = Made.free(10);
            c.is("clear()", 10, x.clear());
            c.is("step(0, ..)", 0, Made.step(x, 0));
            c.is("clear() of that", 1, x.clear());
        });
        c.test(2, "No POINTS any more: it is as if there never were any", () -> {
            FactFinder x = Made.of(3, 4, s(0), s(0), s(1, 0, 1), s(1, 0, 1), s(2, 0, 1, 1));
            x.clear();
            c.is("all", Made.view(Made.of(3, 4)), Made.view(x));
            c.is("told(0, 0)", BAD, x.told(0, 0));
            c.is("place(0, 0, 0)", BAD, x.place(0, 0, 0));
        });
        c.test(2, "No POINTS any more: the SEED and the FIGURES stay", () -> {
            FactFinder x = Made.of(1000000, 5, s(0));
            x.clear();
            c.is("count(3)", 1000000, x.count(3));
            c.is("count(1)", 5, x.count(1));
        });
        c.test(2, "a FIGURE with no POINTS STANDS", () -> {
            FactFinder x = Made.of(3, 4, s(0), s(2, 0, 0, 0));
            c.is("count(2) before", 0, x.count(2));
            c.is("clear()", 2, x.clear());
            c.is("count(2)", 4, x.count(2));
            c.is("falls(3)", NONE, x.falls(3));
        });
        c.test(2, "what is made then is drawn from the SEED on", () -> {
            FactFinder x = Made.of(77, 5, s(0), s(0), s(9, 0, 1));
            x.clear();
            Made.step(x, 0);
            Made.step(x, 0);
            c.is("all", Made.view(Made.of(77, 5, s(0), s(0))), Made.view(x));
        });
    }

    /** A square 0 to 3, its middle 4, 0 once more, and a point of the line of 0 and 1. */
    private static int[][] square(int points) {
        int[][] steps = {s(0), s(0), s(7, 1, 0), s(8, 1, 0, 2), s(1, 0, 3), s(1, 0, 0), s(9, 0, 1)};
        return java.util.Arrays.copyOf(steps, points);
    }

    /** All has been told before: what is kept of it must not be told then. */
    private static void toldAnew() {
        c.test(2, "No POINTS any more: none of them is in what is told of fewer, made alike", () -> {
            for (int points = 0; points < 7; points++) {
                FactFinder x = Made.of(3, 2, square(7));
                Made.view(x);
                x.clear();
                for (int[] step : square(points)) {
                    Made.step(x, step);
                }
                c.is("all of " + points, Made.view(Made.of(3, 2, square(points))), Made.view(x));
            }
        });
        c.test(3, "A POINT more: what is told is told anew", () -> {
            for (int points = 0; points < 7; points++) {
                FactFinder x = Made.of(3, 2, square(points));
                Made.view(x);
                Made.step(x, square(7)[points]);
                c.is("all of " + (points + 1), Made.view(Made.of(3, 2, square(points + 1))), Made.view(x));
            }
        });
        c.test(4, "A POINT'S STEP becomes another one: what is told is told anew", () -> {
            for (int p = 0; p < 7; p++) {
                FactFinder x = Made.of(3, 2, square(7));
                Made.view(x);
                Made.change(x, p, 0);
                int[][] steps = square(7);
                steps[p] = s(0);
                c.is("all with " + p + " FREE", Made.view(Made.of(3, 2, steps)), Made.view(x));
            }
        });
        c.test(5, "The SEED and how many FIGURES: what is told is told anew", () -> {
            int seed = Made.seedOf(5, 0);
            FactFinder x = Made.of(seed, 1, square(7));
            Made.view(x);
            x.draw(seed, 2);
            c.is("all of two", Made.view(Made.of(seed, 2, square(7))), Made.view(x));
            FactFinder y = Made.of(seed, 2, square(7));
            Made.view(y);
            y.draw(seed, 1);
            c.is("all of one", Made.view(Made.of(seed, 1, square(7))), Made.view(y));
        });
    }

    // ---- Promise 3

    private static void stepNumbers() {
        c.test(3, "A POINT more: its number, 0 to 9", () -> {
            FactFinder x = new FactFinder();
            for (int p = 0; p < 10; p++) {
                c.is("step(0, ..) of " + p, p, Made.step(x, 0));
                c.is("count(0)", p + 1, x.count(0));
            }
        });
        for (int kind = 0; kind < 14; kind++) {
            int k = kind;
            c.test(3, "the KIND " + k + " as the tenth POINT; the eleventh is FULL", () -> {
                FactFinder x = Made.free(9);
                c.is("step", 9, Made.step(x, k, 0, 1, 2, 8));
                c.is("told(9, 0)", k, x.told(9, 0));
                c.is("one more", FULL, Made.step(x, k, 0, 1, 2, 8));
                c.is("count(0)", 10, x.count(0));
            });
            c.test(3, "what the KIND " + k + " does not need counts for nothing", () -> {
                int[] plain = {k, 0, 0, 0, 0};
                int[] odd = {k, -1, MAX, MIN, 99};
                for (int i = 1; i <= Made.STEP_POINTS[k]; i++) {
                    plain[i] = odd[i] = i - 1;
                }
                c.is("all", Made.view(Made.of(1, 2, s(0), s(0), s(0), s(0), plain)),
                        Made.view(Made.of(1, 2, s(0), s(0), s(0), s(0), odd)));
            });
            c.test(3, "Two of them may be one: the KIND " + k, () -> {
                FactFinder x = Made.free(3);
                c.is("all four one", 3, Made.step(x, k, 1, 1, 1, 1));
                c.is("the first two one", 4, Made.step(x, k, 2, 2, 0, 1));
                c.is("the last two one", 5, Made.step(x, k, 0, 1, 2, 2));
            });
        }
        c.test(3, "a STEP that FALLS is a POINT, and so is what is made from it", () -> {
            FactFinder x = Made.free(1);
            c.is("step(2, 0, 0, 0)", 1, Made.step(x, 2, 0, 0, 0));
            c.is("step(1, 1, 1)", 2, Made.step(x, 1, 1, 1));
            c.is("count(0)", 3, x.count(0));
        });
    }

    private static void stepRefusals() {
        for (int wrong : new int[] {-1, 14, MIN, MAX}) {
            c.test(3, "BAD: the KIND " + wrong, () -> {
                c.is("with points", BAD, Made.step(Made.free(5), wrong, 0, 1, 2, 3));
                c.is("without", BAD, Made.step(new FactFinder(), wrong));
            });
        }
        for (int kind = 1; kind < 14; kind++) {
            for (int i = 0; i < Made.STEP_POINTS[kind]; i++) {
                int k = kind;
                int at = i + 1;
                c.test(3, "BAD: POINT " + i + " that the KIND " + k + " needs is not there", () -> {
                    for (int wrong : new int[] {-1, 4, 5, 9, 10, MIN, MAX}) {
                        int[] step = {k, 0, 1, 2, 3};
                        step[at] = wrong;
                        c.is("it is " + wrong, BAD, Made.step(Made.free(4), step));
                    }
                });
                c.test(3, "POINT " + i + " that the KIND " + k + " needs is the first or the last", () -> {
                    for (int good : new int[] {0, 3}) {
                        int[] step = {k, 1, 2, 1, 2};
                        step[at] = good;
                        FactFinder x = Made.free(4);
                        c.is("step", 4, Made.step(x, step));
                        c.is("told", good, x.told(4, at));
                    }
                });
            }
            int k = kind;
            c.test(3, "BAD: the KIND " + k + " of no POINTS", () -> {
                FactFinder x = new FactFinder();
                c.is("step", BAD, Made.step(x, k, 0, 0, 0, 0));
                c.is("count(0)", 0, x.count(0));
            });
            c.test(3, "BAD first, then FULL: the KIND " + k + " of a POINT 10", () -> {
                for (int i = 1; i <= Made.STEP_POINTS[k]; i++) {
                    int[] step = {k, 0, 1, 2, 3};
                    step[i] = 10;
                    c.is("as " + i, BAD, Made.step(Made.free(10), step));
                }
            });
        }
        c.test(3, "BAD first, then FULL: the KIND", () -> {
            c.is("14", BAD, Made.step(Made.free(10), 14));
            c.is("-1", BAD, Made.step(Made.free(10), -1));
        });
    }

    // ---- Promise 4

    private static void changeAnswers() {
        for (int kind = 0; kind < 14; kind++) {
            int k = kind;
            c.test(4, "becomes another one: the KIND it had, " + k, () -> {
                FactFinder x = Made.of(1, 1, s(0), s(0), s(0), s(0), s(k, 0, 1, 2, 3));
                c.is("change to FREE", k, Made.change(x, 4, 0));
                c.is("and back", 0, Made.change(x, 4, k, 3, 2, 1, 0));
                c.is("told(4, 0)", k, x.told(4, 0));
                c.is("and to the same once more", k, Made.change(x, 4, k, 0, 1, 2, 3));
                c.is("all", Made.view(Made.of(1, 1, s(0), s(0), s(0), s(0), s(k, 0, 1, 2, 3))), Made.view(x));
            });
            c.test(4, "what the KIND " + k + " does not need counts for nothing", () -> {
                FactFinder x = Made.free(5);
                int[] odd = {k, -1, MAX, MIN, 4};
                for (int i = 1; i <= Made.STEP_POINTS[k]; i++) {
                    odd[i] = i - 1;
                }
                c.is("change", 0, Made.change(x, 4, odd));
                for (int i = 1; i <= 4; i++) {
                    c.is("told(4, " + i + ")", i <= Made.STEP_POINTS[k] ? i - 1 : NONE, x.told(4, i));
                }
            });
            c.test(4, "two of them may be one: the KIND " + k, () ->
                    c.is("change", 0, Made.change(Made.free(2), 1, k, 0, 0, 0, 0)));
        }
        c.test(4, "the POINTS before it stay, those behind it are made anew", () -> {
            FactFinder x = Made.of(6, 2, s(0), s(0), s(0), s(1, 0, 1), s(9, 0, 3));
            c.is("change(2, 9, 0, 1)", 0, Made.change(x, 2, 9, 0, 1));
            c.is("all", Made.view(Made.of(6, 2, s(0), s(0), s(9, 0, 1), s(1, 0, 1), s(9, 0, 3))), Made.view(x));
        });
        c.test(4, "the first POINT of one, the last of ten", () -> {
            c.is("change(0, 0)", 0, Made.change(Made.free(1), 0, 0));
            FactFinder x = Made.free(10);
            c.is("change(9, 1, 8, 0)", 0, Made.change(x, 9, 1, 8, 0));
            c.is("count(0)", 10, x.count(0));
            c.is("told(9, 1)", 8, x.told(9, 1));
        });
        c.test(4, "what FALLS by a change, STANDS again by another", () -> {
            FactFinder x = Made.of(6, 3, s(0), s(0), s(0), s(1, 0, 2));
            Made.change(x, 2, 6, 0, 1, 1);
            c.is("falls(2)", 2, x.falls(2));
            c.is("count(2)", 0, x.count(2));
            Made.change(x, 2, 0);
            c.is("all", Made.view(Made.of(6, 3, s(0), s(0), s(0), s(1, 0, 2))), Made.view(x));
        });
    }

    private static void changeRefusals() {
        c.test(4, "BAD: a POINT that is not there", () -> {
            for (int wrong : new int[] {-1, 3, 9, 10, MIN, MAX}) {
                c.is("change(" + wrong + ", 0)", BAD, Made.change(Made.free(3), wrong, 0));
            }
            c.is("change(10, 0) of ten", BAD, Made.change(Made.free(10), 10, 0));
            c.is("change(0, 0) of none", BAD, Made.change(new FactFinder(), 0, 0));
        });
        for (int wrong : new int[] {-1, 14, MIN, MAX}) {
            c.test(4, "BAD: the KIND " + wrong, () ->
                    c.is("change(4, ..)", BAD, Made.change(Made.free(5), 4, wrong, 0, 1, 2, 3)));
        }
        for (int kind = 1; kind < 14; kind++) {
            int k = kind;
            c.test(4, "BAD: what it needs is not before it: before POINT 0 there is none, KIND " + k, () -> {
                c.is("change(0, ..)", BAD, Made.change(Made.free(5), 0, k, 0, 0, 0, 0));
                c.is("change(0, ..) by others", BAD, Made.change(Made.free(5), 0, k, 1, 2, 3, 4));
            });
            for (int i = 1; i <= Made.STEP_POINTS[kind]; i++) {
                int at = i;
                c.test(4, "BAD: what the KIND " + k + " needs as " + at + " is not before it", () -> {
                    for (int wrong : new int[] {-1, 4, 5, 6, 9, 10, MIN, MAX}) {
                        int[] step = {k, 0, 1, 2, 3};
                        step[at] = wrong;
                        c.is("change(4, ..) by " + wrong, BAD, Made.change(Made.free(6), 4, step));
                    }
                });
                c.test(4, "what the KIND " + k + " needs as " + at + " is the last before it, or the first", () -> {
                    for (int good : new int[] {0, 3}) {
                        int[] step = {k, 1, 2, 1, 2};
                        step[at] = good;
                        FactFinder x = Made.free(6);
                        c.is("change(4, ..) by " + good, 0, Made.change(x, 4, step));
                        c.is("told", good, x.told(4, at));
                    }
                });
            }
        }
    }

    // ---- Promise 5

    private static void drawBounds() {
        for (int seed : new int[] {1, 1000000}) {
            c.test(5, "The SEED, 1 .. 1000000: " + seed, () -> {
                FactFinder x = Made.free(1);
                c.is("draw", 2, x.draw(seed, 2));
                c.is("count(3)", seed, x.count(3));
                c.is("x in figure 0", Made.drawn(seed, 1), x.place(0, 0, 0));
                c.is("x in figure 1", Made.drawn(seed + 1000, 1), x.place(1, 0, 0));
            });
        }
        for (int seed : new int[] {0, -1, 1000001, MIN, MAX}) {
            c.test(5, "BAD: the SEED " + seed, () -> {
                FactFinder x = Made.of(5, 3, s(0));
                c.is("draw", BAD, x.draw(seed, 2));
                c.is("count(3)", 5, x.count(3));
                c.is("count(1)", 3, x.count(1));
            });
        }
        for (int f = 1; f <= 5; f++) {
            int figures = f;
            c.test(5, "how many FIGURES, 1 .. 5: " + figures, () -> {
                FactFinder x = Made.free(1);
                c.is("draw", figures, x.draw(1, figures));
                c.is("count(1)", figures, x.count(1));
                c.is("falls of the last", NONE, x.falls(figures - 1));
                c.is("falls of one more", BAD, x.falls(figures));
            });
        }
        for (int figures : new int[] {0, -1, 6, MIN, MAX}) {
            c.test(5, "BAD: FIGURES " + figures, () -> {
                FactFinder x = Made.of(5, 3, s(0));
                c.is("draw", BAD, x.draw(7, figures));
                c.is("count(3)", 5, x.count(3));
                c.is("count(1)", 3, x.count(1));
            });
        }
    }

    private static void drawAnswers() {
        c.test(5, "how many STAND then: all, as there are no POINTS", () ->
                c.is("draw(1, 5)", 5, new FactFinder().draw(1, 5)));
        c.test(5, "how many STAND then: none", () -> {
            FactFinder x = Made.of(1, 1, s(0), s(13, 0, 0, 0));
            c.is("draw(1, 5)", 0, x.draw(1, 5));
            c.is("count(2)", 0, x.count(2));
        });
        c.test(5, "how many STAND then: all but the one that FALLS", () -> {
            FactFinder x = Made.of(1, 1, s(0), s(0), s(9, 0, 1), s(13, 2, 0, 1));
            c.is("draw(1, 5)", 5, x.draw(1, 5));
            int seed = Made.seedOf(5, 0);
            c.is("draw(" + seed + ", 5)", 4, x.draw(seed, 5));
            c.is("falls(0)", 3, x.falls(0));
            c.is("falls(1)", NONE, x.falls(1));
            c.is("draw(" + seed + ", 1)", 0, x.draw(seed, 1));
        });
        c.test(5, "fewer FIGURES, then more, are the same ones", () -> {
            FactFinder x = Made.of(8, 5, s(0), s(0), s(10, 0, 1));
            String before = Made.view(x);
            x.draw(9, 1);
            c.is("place in what is no more", BAD, x.place(1, 0, 0));
            x.draw(8, 5);
            c.is("all", before, Made.view(x));
        });
        c.test(5, "drawing does not change the STEPS", () -> {
            FactFinder x = Made.of(8, 5, s(0), s(0), s(10, 0, 1));
            x.draw(1, 1);
            c.is("count(0)", 3, x.count(0));
            c.is("told(2, 0)", 10, x.told(2, 0));
        });
    }

    // ---- Promise 6

    private static void count() {
        for (int wrong : new int[] {-1, 5, MIN, MAX}) {
            c.test(6, "BAD: " + wrong, () -> c.is("count", BAD, Made.free(2).count(wrong)));
        }
        c.test(6, "0 POINTS: none, one, ten", () -> {
            c.is("none", 0, new FactFinder().count(0));
            c.is("one", 1, Made.free(1).count(0));
            c.is("ten", 10, Made.free(10).count(0));
        });
        c.test(6, "1 FIGURES, 2 those that STAND, 3 the SEED", () -> {
            FactFinder x = Made.of(Made.seedOf(5, 0), 5, s(0), s(0), s(9, 0, 1), s(13, 2, 0, 1));
            c.is("count(1)", 5, x.count(1));
            c.is("count(2)", 4, x.count(2));
            c.is("count(3)", Made.seedOf(5, 0), x.count(3));
        });
        c.test(6, "4 places: none, ten, one of ten", () -> {
            c.is("of none", 0, new FactFinder().count(4));
            c.is("of ten", 10, Made.free(10).count(4));
            FactFinder x = Made.free(1);
            for (int p = 1; p < 10; p++) {
                Made.step(x, 1, p - 1, 0);
            }
            c.is("of ten that are SAME", 1, x.count(4));
        });
        c.test(6, "POINTS that are not SAME as a lesser one: two pairs of three places", () -> {
            FactFinder x = Made.of(2, 3, s(0), s(0), s(1, 0, 1), s(1, 1, 1), s(1, 2, 2));
            c.is("count(4)", 3, x.count(4));
        });
        c.test(6, "places: SAME in one FIGURE alone is not SAME", () -> {
            int seed = Made.seedOf(5, 0);
            c.is("of one figure", 2, Made.of(seed, 1, s(0), s(0), s(9, 0, 1)).count(4));
            c.is("of two", 3, Made.of(seed, 2, s(0), s(0), s(9, 0, 1)).count(4));
        });
        c.test(6, "places: a FIGURE that does not STAND is not asked", () -> {
            // Figure 0 alone has 2 on 1; in it 3 falls. Point 4 is 0 once more, where it is made.
            int seed = Made.seedOf(5, 0);
            FactFinder x = Made.of(seed, 2, s(0), s(0), s(9, 1, 0), s(2, 0, 1, 2), s(1, 0, 0));
            c.is("count(2)", 1, x.count(2));
            c.is("count(4)", 3, x.count(4));
        });
        c.test(6, "places: if no FIGURE STANDS, none are SAME", () -> {
            FactFinder x = Made.free(1);
            Made.step(x, 1, 0, 0);
            c.is("count(4) before", 1, x.count(4));
            Made.step(x, 2, 0, 0, 0);
            c.is("count(4)", 3, x.count(4));
        });
    }

    // ---- Promise 7

    private static void told() {
        for (int kind = 0; kind < 14; kind++) {
            int k = kind;
            c.test(7, "0 the KIND, 1 .. 4 a .. d, NONE: it needs none such: " + k, () -> {
                FactFinder x = Made.of(1, 1, s(0), s(0), s(0), s(0), s(k, 3, 2, 1, 0));
                c.is("told(4, 0)", k, x.told(4, 0));
                for (int what = 1; what <= 4; what++) {
                    c.is("told(4, " + what + ")", what <= Made.STEP_POINTS[k] ? 4 - what : NONE, x.told(4, what));
                }
                c.is("told(4, 5)", BAD, x.told(4, 5));
            });
        }
        for (int wrong : new int[] {-1, 5, MIN, MAX}) {
            c.test(7, "BAD: what = " + wrong, () -> {
                FactFinder x = Made.of(1, 1, s(0), s(3, 0, 0, 0, 0));
                c.is("of FREE", BAD, x.told(0, wrong));
                c.is("of four points", BAD, x.told(1, wrong));
            });
        }
        c.test(7, "BAD: a POINT that is not there", () -> {
            for (int wrong : new int[] {-1, 2, 9, 10, MIN, MAX}) {
                for (int what = 0; what <= 4; what++) {
                    c.is("told(" + wrong + ", " + what + ")", BAD, Made.free(2).told(wrong, what));
                }
            }
            c.is("told(10, 0) of ten", BAD, Made.free(10).told(10, 0));
            c.is("told(9, 0) of ten", 0, Made.free(10).told(9, 0));
        });
        c.test(7, "of a POINT whose STEP FALLS too", () -> {
            FactFinder x = Made.of(1, 1, s(0), s(2, 0, 0, 0));
            c.is("told(1, 0)", 2, x.told(1, 0));
            c.is("told(1, 3)", 0, x.told(1, 3));
            c.is("told(1, 4)", NONE, x.told(1, 4));
        });
    }

    // ---- Promise 8

    private static void falls() {
        c.test(8, "BAD: a FIGURE that is none", () -> {
            FactFinder x = Made.of(1, 3, s(0));
            for (int wrong : new int[] {-1, 3, 4, 5, MIN, MAX}) {
                c.is("falls(" + wrong + ")", BAD, x.falls(wrong));
            }
            x.draw(1, 5);
            c.is("falls(5) of five", BAD, x.falls(5));
            c.is("falls(4) of five", NONE, x.falls(4));
        });
        c.test(8, "NONE: it STANDS, as there are no POINTS", () ->
                c.is("falls(0)", NONE, new FactFinder().falls(0)));
        c.test(8, "The first POINT whose STEP FALLS, of several", () -> {
            FactFinder x = Made.of(1, 2, s(0), s(0), s(2, 0, 1, 1), s(0), s(2, 0, 1, 1));
            c.is("falls(0)", 2, x.falls(0));
            c.is("falls(1)", 2, x.falls(1));
            Made.change(x, 2, 0);
            c.is("falls(0), the first is mended", 4, x.falls(0));
            Made.change(x, 4, 0);
            c.is("falls(0), both are", NONE, x.falls(0));
        });
        c.test(8, "The first POINT that FALLS: the second, the tenth", () -> {
            c.is("the second", 1, Made.of(1, 1, s(0), s(13, 0, 0, 0)).falls(0));
            FactFinder x = Made.free(9);
            Made.step(x, 4, 0, 1, 1);
            c.is("the tenth", 9, x.falls(0));
        });
        c.test(8, "it FALLS in one FIGURE, not in another", () -> {
            int seed = Made.seedOf(5, 0);
            FactFinder x = Made.of(seed, 2, s(0), s(0), s(9, 0, 1), s(2, 1, 0, 2));
            c.is("falls(0)", 3, x.falls(0));
            c.is("falls(1)", NONE, x.falls(1));
        });
        c.test(8, "POINTS that are one, of KINDS that never FALL", () -> {
            for (int kind : new int[] {0, 1, 7, 8, 9, 10, 12}) {
                FactFinder x = Made.of(1, 5, s(0), s(kind, 0, 0, 0, 0));
                c.is("the KIND " + kind, 5, x.count(2));
            }
        });
        c.test(8, "10: w . w is 0 for no t, as -1 is no square", () -> {
            FactFinder x = Made.of(1, 5, s(0), s(0), s(10, 0, 1), s(10, 0, 1), s(10, 0, 1), s(10, 0, 1),
                    s(10, 0, 1), s(10, 0, 1), s(10, 0, 1), s(10, 0, 1));
            for (int seed = 1; seed <= 400; seed++) {
                c.is("draw(" + seed + ", 5)", 5, x.draw(seed, 5));
            }
        });
    }

    private static void fall(String why, boolean falls, int[]... steps) {
        FactFinder x = Made.of(1, 2, steps);
        int last = steps.length - 1;
        c.is(why, falls ? last : NONE, x.falls(0));
        c.is(why + ", in figure 1", falls ? last : NONE, x.falls(1));
        c.isTrue(why + ", its place", x.place(0, last, 0) == NONE == falls);
    }

    private static void fallsOfLines() {
        for (int kind : new int[] {2, 6}) {
            c.test(8, "the KIND " + kind + " FALLS, if |bc| is 0", () -> {
                fall("b is c", true, s(0), s(0), s(kind, 0, 1, 1));
                fall("b and c have one place", true, s(0), s(0), s(1, 1, 1), s(kind, 0, 1, 2));
                fall("b and c differ", false, s(0), s(0), s(0), s(kind, 0, 1, 2));
                fall("a is b", false, s(0), s(0), s(kind, 0, 0, 1));
                fall("a is c", false, s(0), s(0), s(kind, 0, 1, 0));
                fall("a is on the line", false, s(0), s(0), s(1, 0, 1), s(kind, 2, 0, 1));
            });
        }
        c.test(8, "3 FALLS, if ab x cd is 0", () -> {
            fall("a is b", true, s(0), s(0), s(0), s(3, 0, 0, 1, 2));
            fall("c is d", true, s(0), s(0), s(0), s(3, 0, 1, 2, 2));
            fall("one line", true, s(0), s(0), s(3, 0, 1, 0, 1));
            fall("one line, turned", true, s(0), s(0), s(3, 0, 1, 1, 0));
            fall("parallels", true, s(0), s(0), s(0), s(8, 1, 0, 2), s(3, 0, 1, 2, 3));
            fall("parallels, turned", true, s(0), s(0), s(0), s(8, 1, 0, 2), s(3, 0, 1, 3, 2));
            fall("a line with its middle", true, s(0), s(0), s(1, 0, 1), s(3, 0, 1, 0, 2));
            fall("lines with one point", false, s(0), s(0), s(0), s(3, 0, 1, 0, 2));
            fall("lines with no point", false, s(0), s(0), s(0), s(0), s(3, 0, 1, 2, 3));
            fall("lines at a right angle", false, s(0), s(0), s(7, 1, 0), s(3, 0, 1, 0, 2));
        });
    }

    private static void fallsOfCircles() {
        for (int kind : new int[] {4, 5}) {
            c.test(8, "the KIND " + kind + " FALLS, if ab x ac is 0", () -> {
                fall("a is b", true, s(0), s(0), s(kind, 0, 0, 1));
                fall("a is c", true, s(0), s(0), s(kind, 0, 1, 0));
                fall("b is c", true, s(0), s(0), s(kind, 0, 1, 1));
                fall("on one line", true, s(0), s(0), s(1, 0, 1), s(kind, 0, 1, 2));
                fall("a right angle", false, s(0), s(0), s(7, 1, 0), s(kind, 0, 1, 2));
                fall("a triangle", false, s(0), s(0), s(0), s(kind, 0, 1, 2));
            });
        }
        c.test(8, "11 FALLS, if that CENTRE (as of a, c, d) does", () -> {
            fall("c is d", true, s(0), s(0), s(0), s(11, 0, 1, 2, 2));
            fall("a is c", true, s(0), s(0), s(0), s(11, 0, 1, 0, 2));
            fall("a is d", true, s(0), s(0), s(0), s(11, 0, 1, 2, 0));
            fall("a, c, d on one line", true, s(0), s(0), s(0), s(1, 0, 2), s(11, 0, 1, 2, 3));
            fall("a, b, c on one line", false, s(0), s(0), s(0), s(1, 0, 1), s(11, 0, 1, 3, 2));
            fall("b, c, d on one line", false, s(0), s(0), s(0), s(1, 1, 2), s(11, 0, 1, 2, 3));
        });
        c.test(8, "11 FALLS, if that FOOT does", () -> {
            fall("a is b", true, s(0), s(0), s(0), s(11, 0, 0, 1, 2));
            fall("a and b have one place", true, s(0), s(0), s(0), s(1, 0, 0), s(11, 0, 3, 1, 2));
            fall("b is c", false, s(0), s(0), s(0), s(11, 0, 1, 1, 2));
            fall("b is d", false, s(0), s(0), s(0), s(11, 0, 1, 2, 1));
        });
        c.test(8, "13 FALLS, if |ba| is 0", () -> {
            fall("a is b", true, s(0), s(0), s(13, 0, 0, 1));
            fall("a and b have one place", true, s(0), s(0), s(1, 0, 0), s(13, 0, 2, 1));
            fall("b is c", false, s(0), s(0), s(13, 0, 1, 1));
            fall("a is c", false, s(0), s(0), s(13, 0, 1, 0));
        });
    }

    // ---- Promise 9

    private static void placeBounds() {
        c.test(9, "BAD: a FIGURE that is none", () -> {
            FactFinder x = Made.of(1, 3, s(0));
            for (int wrong : new int[] {-1, 3, 4, 5, MIN, MAX}) {
                c.is("place(" + wrong + ", 0, 0)", BAD, x.place(wrong, 0, 0));
            }
            c.isTrue("place(2, 0, 0)", x.place(2, 0, 0) >= 0);
        });
        c.test(9, "BAD: a POINT that is not there", () -> {
            FactFinder x = Made.of(1, 3, s(0), s(0));
            for (int wrong : new int[] {-1, 2, 9, 10, 15, 16, MIN, MAX}) {
                c.is("place(0, " + wrong + ", 0)", BAD, x.place(0, wrong, 0));
            }
            c.is("place(0, 10, 0) of ten", BAD, Made.free(10).place(0, 10, 0));
            c.isTrue("place(0, 9, 0) of ten", Made.free(10).place(0, 9, 0) >= 0);
        });
        c.test(9, "BAD: an axis that is neither 0 nor 1", () -> {
            for (int wrong : new int[] {-1, 2, MIN, MAX}) {
                c.is("place(0, 0, " + wrong + ")", BAD, Made.free(1).place(0, 0, wrong));
            }
        });
        c.test(9, "NONE: a STEP up to it FALLS: its own, or one before it", () -> {
            FactFinder x = Made.of(1, 2, s(0), s(0), s(2, 0, 1, 1), s(0), s(1, 0, 1));
            for (int axis = 0; axis < 2; axis++) {
                c.isTrue("before it", x.place(1, 1, axis) >= 0);
                c.is("of it", NONE, x.place(1, 2, axis));
                c.is("behind it", NONE, x.place(1, 3, axis));
                c.is("behind it, not made from it", NONE, x.place(1, 4, axis));
            }
        });
        c.test(9, "NONE in the FIGURE that FALLS alone", () -> {
            FactFinder x = Made.of(Made.seedOf(5, 0), 2, s(0), s(0), s(9, 0, 1), s(2, 1, 0, 2));
            c.is("figure 0", NONE, x.place(0, 3, 0));
            c.isTrue("figure 1", x.place(1, 3, 0) >= 0);
        });
        c.test(9, "BAD first, then NONE", () -> {
            FactFinder x = Made.of(1, 1, s(0), s(2, 0, 0, 0));
            c.is("place(0, 1, 0)", NONE, x.place(0, 1, 0));
            c.is("place(0, 1, 2)", BAD, x.place(0, 1, 2));
            c.is("place(1, 1, 0)", BAD, x.place(1, 1, 0));
            c.is("place(0, 2, 0)", BAD, x.place(0, 2, 0));
        });
    }

    private static void placesDrawn() {
        c.test(9, "FREE: x, then y, are DRAWN", () -> {
            FactFinder x = Made.free(10);
            for (int p = 0; p < 10; p++) {
                c.is("x of " + p, Made.drawn(1, 2 * p + 1), x.place(0, p, 0));
                c.is("y of " + p, Made.drawn(1, 2 * p + 2), x.place(0, p, 1));
            }
        });
        c.test(9, "a state, at first SEED + 1000 g: over 1000000 too", () -> {
            FactFinder x = Made.of(1000000, 5, s(0));
            for (int g = 0; g < 5; g++) {
                c.is("x in " + g, Made.drawn(1000000 + 1000 * g, 1), x.place(g, 0, 0));
                c.is("y in " + g, Made.drawn(1000000 + 1000 * g, 2), x.place(g, 0, 1));
            }
        });
        c.test(9, "times 48271 modulo 2147483647: the first that wraps, as told by hand", () -> {
            FactFinder x = Made.free(2);
            c.is("48271", 48271, x.place(0, 0, 0));
            c.is("182605794 modulo P", 605248, x.place(0, 0, 1));
            c.is("1291394886 modulo P", 391013, x.place(0, 1, 0));
            c.is("1914720637 modulo P", 714895, x.place(0, 1, 1));
        });
        c.test(9, "the number is that modulo P: the least, 0, and the greatest, P - 1", () -> {
            c.is("x is 0", 0, Made.of(Made.seedOf(1, 0), 1, s(0)).place(0, 0, 0));
            c.is("y is 0", 0, Made.of(Made.seedOf(2, 0), 1, s(0)).place(0, 0, 1));
            c.is("x is P - 1", P - 1, Made.of(Made.seedOf(3, P - 1), 1, s(0), s(0)).place(0, 1, 0));
        });
        for (int kind : new int[] {9, 10}) {
            c.test(9, "the KIND " + kind + " draws one number, FREE two, the others none", () -> {
                FactFinder x = Made.of(1, 1, s(0), s(0), s(1, 0, 1), s(kind, 0, 1), s(7, 0, 1), s(0));
                c.is("x of the last", Made.drawn(1, 6), x.place(0, 5, 0));
                c.is("y of the last", Made.drawn(1, 7), x.place(0, 5, 1));
            });
        }
        c.test(9, "9: a + t ab, t DRAWN: t is 0, t is 1", () -> {
            FactFinder zero = Made.of(Made.seedOf(5, 0), 1, s(0), s(0), s(9, 0, 1));
            c.is("it is a", 1, Made.holds(zero, 0, 0, 2));
            FactFinder one = Made.of(Made.seedOf(7, 1), 1, s(0), s(0), s(0), s(9, 0, 1));
            c.is("it is b", 1, Made.holds(one, 0, 1, 3));
        });
        c.test(9, "10: b - 2 w (w . ab) / (w . w), w = (1, t): t is 0: x alone changes", () -> {
            FactFinder x = Made.of(Made.seedOf(5, 0), 1, s(0), s(0), s(10, 0, 1));
            long due = 2L * x.place(0, 0, 0) - x.place(0, 1, 0);
            c.is("x", (int) Math.floorMod(due, (long) P), x.place(0, 2, 0));
            c.is("y", x.place(0, 1, 1), x.place(0, 2, 1));
        });
    }

    private static void placesThatWrap() {
        c.test(9, "NUMBERS are 0 .. P - 1: of all KINDS, in many FIGURES", () -> {
            for (int kind = 0; kind < 14; kind++) {
                FactFinder x = Made.of(1, 5, s(0), s(0), s(0), s(0), s(kind, 0, 1, 2, 3), s(kind, 3, 2, 1, 0));
                for (int seed = 1; seed <= 20; seed++) {
                    x.draw(seed, 5);
                    for (int g = 0; g < 5; g++) {
                        for (int axis = 0; axis < 2; axis++) {
                            int n = x.place(g, 4 + seed % 2, axis);
                            c.isTrue("the KIND " + kind + ": " + n, n >= 0 && n < P);
                        }
                    }
                }
            }
        });
        c.test(9, "1: an odd sum has a half modulo P", () -> {
            FactFinder x = Made.of(1, 1, s(0), s(0), s(1, 0, 1));
            c.is("an even sum", (48271 + 391013) / 2, x.place(0, 2, 0));
            c.is("an odd sum", (605248 + 714895 + P) / 2 % P, x.place(0, 2, 1));
        });
        c.test(9, "7: less than 0 becomes P more", () -> {
            FactFinder x = Made.of(1, 1, s(0), s(0), s(7, 0, 1), s(7, 1, 0));
            c.is("x of 0 round 1", 391013 + 714895 - 605248, x.place(0, 2, 0));
            c.is("y of 0 round 1", 714895 + 48271 - 391013, x.place(0, 2, 1));
            c.is("x of 1 round 0", 48271 - (714895 - 605248) + P, x.place(0, 3, 0));
            c.is("y of 1 round 0", 605248 + 391013 - 48271, x.place(0, 3, 1));
        });
        c.test(9, "8: a + c - b, both over P - 1 and less than 0", () -> {
            FactFinder x = Made.of(1, 1, s(0), s(0), s(8, 0, 1, 0), s(8, 1, 0, 1));
            c.is("x less than 0", 2 * 48271 - 391013 + P, x.place(0, 2, 0));
            c.is("y within", 2 * 605248 - 714895, x.place(0, 2, 1));
            c.is("x within", 2 * 391013 - 48271, x.place(0, 3, 0));
            FactFinder y = Made.of(Made.seedOf(3, P - 1), 1, s(0), s(0), s(8, 1, 0, 1));
            long due = 2L * (P - 1) - y.place(0, 0, 0);
            c.is("x over P - 1", (int) (due % P), y.place(0, 2, 0));
        });
        c.test(9, "12: the third part, of a sum with each rest", () -> {
            for (int seed = 1; seed <= 12; seed++) {
                FactFinder x = Made.of(seed, 1, s(0), s(0), s(0), s(12, 0, 1, 2));
                for (int axis = 0; axis < 2; axis++) {
                    long sum = (long) x.place(0, 0, axis) + x.place(0, 1, axis) + x.place(0, 2, axis);
                    c.is("three times it, seed " + seed, (int) (sum % P), (int) (3L * x.place(0, 3, axis) % P));
                }
            }
        });
    }

    /** Steps of KIND 8 of FREE points that, before they wrap, are the number given: x, then y. */
    private static void shift(int number, int due) {
        for (int axis = 0; axis < 2; axis++) {
            boolean found = false;
            for (int seed = 1; seed <= 1000000 && !found; seed++) {
                int[] at = {Made.drawn(seed, 1 + axis), Made.drawn(seed, 3 + axis), Made.drawn(seed, 5 + axis),
                    Made.drawn(seed, 7 + axis)};
                for (int way = 0; way < 64 && !found; way++) {
                    int[] step = {8, way / 16, way / 4 % 4, way % 4};
                    if (at[step[1]] + at[step[3]] - at[step[2]] == number) {
                        found = true;
                        FactFinder x = Made.of(seed, 1, s(0), s(0), s(0), s(0), step);
                        c.is("seed " + seed + ", axis " + axis, due, x.place(0, 4, axis));
                    }
                }
            }
            c.isTrue("there is a seed for " + number, found);
        }
    }

    private static void placesOfOneTooFar() {
        c.test(9, "NUMBERS are 0 .. P - 1: -1 is P - 1", () -> shift(-1, P - 1));
        c.test(9, "NUMBERS are 0 .. P - 1: 0 is 0", () -> shift(0, 0));
        c.test(9, "NUMBERS are 0 .. P - 1: P - 1 is P - 1", () -> shift(P - 1, P - 1));
        c.test(9, "NUMBERS are 0 .. P - 1: P is 0", () -> shift(P, 0));
        c.test(9, "NUMBERS are 0 .. P - 1: P + 1 is 1", () -> shift(P + 1, 1));
    }

    private static void one(String what, int least, int point, int[]... steps) {
        FactFinder x = Made.of(1, 3, steps);
        c.is(what, 1, Made.holds(x, 0, least, point));
        for (int axis = 0; axis < 2; axis++) {
            c.is(what + ", axis " + axis, x.place(2, least, axis), x.place(2, point, axis));
        }
    }

    private static void placesOfOnePoint() {
        c.test(9, "1: the middle of a POINT with itself is it", () -> one("middle", 0, 1, s(0), s(1, 0, 0)));
        c.test(9, "7: a POINT turned round itself is it", () -> one("quarter", 0, 1, s(0), s(7, 0, 0)));
        c.test(9, "8: a + c - b: a is b, b is c", () -> {
            one("a is b", 1, 2, s(0), s(0), s(8, 0, 0, 1));
            one("b is c", 1, 2, s(0), s(0), s(8, 1, 0, 0));
        });
        c.test(9, "9: on the line of a POINT and itself", () -> one("line", 0, 1, s(0), s(9, 0, 0)));
        c.test(9, "10: on the circle about a POINT through itself", () -> one("circle", 0, 1, s(0), s(10, 0, 0)));
        c.test(9, "12: the third part of one POINT three times is it", () -> one("third", 0, 1, s(0), s(12, 0, 0, 0)));
        c.test(9, "13: b is c: nothing but b is left", () -> one("turned out", 1, 2, s(0), s(0), s(13, 0, 1, 1)));
        c.test(9, "13: a on the circle stays", () -> {
            one("a is c", 0, 2, s(0), s(0), s(13, 0, 1, 0));
            one("as far as c", 0, 3, s(0), s(0), s(7, 0, 1), s(13, 0, 1, 2));
        });
        c.test(9, "2: the FOOT of a POINT of the line is it", () -> {
            one("b", 0, 2, s(0), s(0), s(2, 0, 0, 1));
            one("c", 1, 2, s(0), s(0), s(2, 1, 0, 1));
            one("the middle", 2, 3, s(0), s(0), s(1, 0, 1), s(2, 2, 0, 1));
        });
        c.test(9, "6: the mirror of a POINT of the line is it", () -> {
            one("b", 0, 2, s(0), s(0), s(6, 0, 0, 1));
            one("c", 1, 2, s(0), s(0), s(6, 1, 0, 1));
            one("the middle", 2, 3, s(0), s(0), s(1, 0, 1), s(6, 2, 0, 1));
        });
        c.test(9, "3: lines with one POINT meet there", () -> {
            one("a is c", 0, 3, s(0), s(0), s(0), s(3, 0, 1, 0, 2));
            one("a is d", 0, 3, s(0), s(0), s(0), s(3, 0, 1, 2, 0));
            one("b is c", 1, 3, s(0), s(0), s(0), s(3, 0, 1, 1, 2));
            one("b is d", 1, 3, s(0), s(0), s(0), s(3, 0, 1, 2, 1));
        });
    }

    /** Of a right angle 1, 0, 2 what is known; it is half of a square. */
    private static void placesAtTheEdge() {
        c.test(9, "4: the CENTRE of a right angle is the middle of the far side", () ->
                one("centre", 3, 4, s(0), s(0), s(7, 1, 0), s(1, 1, 2), s(4, 0, 1, 2)));
        c.test(9, "5: the heights of a right angle meet in it", () ->
                one("heights", 0, 3, s(0), s(0), s(7, 1, 0), s(5, 0, 1, 2)));
        c.test(9, "2: the FOOT of the right angle is the middle of the far side", () ->
                one("foot", 3, 4, s(0), s(0), s(7, 1, 0), s(1, 1, 2), s(2, 0, 1, 2)));
        c.test(9, "6: its mirror makes the square full", () ->
                one("mirror", 3, 4, s(0), s(0), s(7, 1, 0), s(8, 1, 0, 2), s(6, 0, 1, 2)));
        c.test(9, "7: four quarters are none", () ->
                one("quarters", 1, 5, s(0), s(0), s(7, 1, 0), s(7, 2, 0), s(7, 3, 0), s(7, 4, 0)));
        c.test(9, "11: b is on the circle: it is b", () -> {
            one("b is c", 1, 3, s(0), s(0), s(0), s(11, 0, 1, 1, 2));
            one("b is d", 1, 3, s(0), s(0), s(0), s(11, 0, 1, 2, 1));
        });
        c.test(9, "11: a line that touches the circle in a meets it in a again", () -> {
            // 1 is the centre of the circle of 0, 2, 3; 4 lies across the way from 0 to it.
            one("touch", 0, 5, s(0), s(0), s(7, 0, 1), s(10, 1, 0), s(7, 1, 0), s(11, 0, 4, 2, 3));
        });
        c.test(9, "13: turned out twice is where it was", () ->
                one("twice", 0, 4, s(0), s(0), s(0), s(13, 0, 1, 2), s(13, 3, 1, 2)));
        c.test(9, "13: half as far becomes twice as far", () ->
                one("half", 3, 4, s(0), s(0), s(1, 0, 1), s(8, 1, 0, 1), s(13, 2, 0, 1)));
        c.test(9, "10: it is as far from a as b, and with t DRAWN not b", () -> {
            FactFinder x = Made.of(1, 5, s(0), s(0), s(10, 0, 1));
            c.is("as far", 1, Made.holds(x, 4, 0, 1, 0, 2));
            c.is("not b", 0, Made.holds(x, 0, 1, 2));
        });
    }
}
