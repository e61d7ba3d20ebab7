/** Promises 10 to 15: which facts hold, which are told, what they need, rows and rings. */
public final class FactsTest {
    private static final int NONE = FactFinder.NONE, BAD = FactFinder.BAD;
    private static final int[] WRONG = {-1, 10, 15, Integer.MIN_VALUE, Integer.MAX_VALUE};
    private static final int[] WIDTH = {2, 3, 4, 4, 4, 4, 3, 6, 6};

    private static final Due due = new Due();

    public static void main(String[] args) {
        holdsInATriangle();
        holdsRefusals();
        ratioEdges();
        toldInATriangle();
        toldOfSamePoints();
        toldOfAreas();
        factRefusals();
        needs();
        needsRefusals();
        needsOfWhatFallsThen();
        rowsAndRings();
        rowsAndRingsOfSamePoints();
        noFigureStands();
        oneFigureIsOdd();
        onlyOneAxisAgrees();
        clearedPointsAreGone();
        tenPointsOnALine();
        due.end();
    }

    private static FactFinder made(int seed, int figures, int[]... steps) {
        FactFinder x = new FactFinder();
        x.draw(seed, figures);
        for (int p = 0; p < steps.length; p++) {
            int[] s = java.util.Arrays.copyOf(steps[p], 5);
            due.is("step " + p, p, x.step(s[0], s[1], s[2], s[3], s[4]));
        }
        return x;
    }

    /**
     * A triangle 0, 1, 2; its centre 3, where its heights meet 4, its third part 5; the middle 6 of
     * 0 and 1, the foot 7 of 2 on the same side, the middles 8 of 0 and 2, and 9 of 1 and 2.
     */
    private static FactFinder triangle() {
        return made(1, 5, new int[] {0}, new int[] {0}, new int[] {0}, new int[] {4, 0, 1, 2},
                new int[] {5, 0, 1, 2}, new int[] {12, 0, 1, 2}, new int[] {1, 0, 1},
                new int[] {2, 2, 0, 1}, new int[] {1, 0, 2}, new int[] {1, 1, 2});
    }

    private static void holds(FactFinder x, int answer, int kind, int... p) {
        int[] r = {-7, -7, -7, -7, -7, -7};
        System.arraycopy(p, 0, r, 0, p.length);
        due.is("holds(" + kind + ", " + java.util.Arrays.toString(p) + ")", answer,
                x.holds(kind, r[0], r[1], r[2], r[3], r[4], r[5]));
    }

    private static void told(FactFinder x, int kind, String all) {
        String got = Made.told(x, kind);
        due.isTrue("told of kind " + kind + ": " + got + ", due: " + all, got.equals(all));
    }

    private static void holdsInATriangle() {
        FactFinder x = triangle();
        holds(x, 0, 0, 3, 5);
        holds(x, 1, 1, 3, 4, 5);
        holds(x, 0, 1, 3, 4, 6);
        holds(x, 1, 2, 0, 1, 8, 9);
        holds(x, 0, 2, 0, 2, 8, 9);
        holds(x, 1, 3, 0, 1, 2, 4);
        holds(x, 0, 3, 0, 1, 2, 5);
        holds(x, 1, 4, 0, 3, 1, 3);
        holds(x, 0, 4, 0, 4, 1, 4);
        holds(x, 1, 5, 6, 7, 8, 9);
        holds(x, 0, 5, 0, 7, 8, 9);
        holds(x, 1, 6, 6, 0, 1);
        holds(x, 0, 6, 7, 0, 1);
        holds(x, 1, 7, 0, 1, 5, 0, 2, 5);
        holds(x, 0, 7, 0, 1, 2, 0, 1, 5);
        holds(x, 1, 8, 0, 1, 0, 6);
        holds(x, 0, 8, 0, 1, 0, 7);
    }

    private static void holdsRefusals() {
        FactFinder x = triangle();
        int[][] bad = {{0, 1, 0}, {0, 1, 1}, {1, 0, 2, 1}, {1, 1, 0, 2}, {1, 0, 0, 1}, {1, 0, 1, 1},
            {2, 0, 1, 0, 2}, {2, 0, 1, 1, 2}, {2, 0, 2, 1, 2}, {2, 2, 3, 0, 1}, {2, 1, 0, 2, 3}, {2, 0, 1, 3, 2},
            {3, 0, 1, 0, 1}, {3, 0, 2, 0, 1}, {3, 1, 2, 0, 3}, {3, 0, 0, 1, 2}, {3, 1, 0, 2, 3}, {3, 0, 1, 2, 2},
            {4, 0, 1, 0, 1}, {4, 0, 2, 0, 1}, {4, 1, 2, 0, 3}, {4, 0, 0, 1, 2}, {4, 1, 0, 2, 3}, {4, 0, 1, 2, 2},
            {5, 0, 1, 2, 2}, {5, 0, 0, 1, 2}, {5, 0, 2, 1, 3}, {5, 0, 1, 3, 2}, {5, 1, 0, 2, 3},
            {6, 0, 0, 1}, {6, 1, 0, 1}, {6, 2, 1, 0}, {6, 2, 1, 1},
            {7, 0, 1, 2, 0, 1, 2}, {7, 0, 1, 3, 0, 1, 2}, {7, 0, 2, 3, 0, 1, 4}, {7, 1, 2, 3, 0, 4, 5},
            {7, 0, 2, 1, 3, 4, 5}, {7, 1, 0, 2, 3, 4, 5}, {7, 0, 1, 2, 3, 5, 4}, {7, 0, 1, 2, 4, 3, 5},
            {7, 0, 0, 2, 3, 4, 5}, {7, 0, 1, 2, 3, 3, 5},
            {8, 0, 1, 0, 1}, {8, 0, 2, 0, 1}, {8, 1, 2, 0, 3}, {8, 0, 0, 1, 2}, {8, 0, 1, 3, 2}};
        for (int[] b : bad) {
            holds(x, BAD, b[0], java.util.Arrays.copyOfRange(b, 1, b.length));
        }
        int[][] good = {{0, 1}, {0, 1, 2}, {0, 1, 2, 3}, {0, 1, 0, 2}, {0, 1, 1, 2}, {0, 1, 2, 3}, {2, 0, 1},
            {0, 1, 2, 0, 1, 3}, {0, 2, 1, 2}};
        for (int kind = 0; kind < 9; kind++) {
            due.isTrue("a fact of kind " + kind + " that is good", holdsAnswers(x, kind, good[kind]));
            for (int k = 0; k < good[kind].length; k++) {
                for (int wrong : WRONG) {
                    int[] r = good[kind].clone();
                    r[k] = wrong;
                    holds(x, BAD, kind, r);
                }
            }
        }
        for (int kind : new int[] {-1, 9, Integer.MIN_VALUE, Integer.MAX_VALUE}) {
            holds(x, BAD, kind, 0, 1, 2, 3, 4, 5);
        }
        holds(made(1, 1, new int[] {0}, new int[] {0}), BAD, 0, 0, 2);
    }

    private static boolean holdsAnswers(FactFinder x, int kind, int[] p) {
        int[] r = {-7, -7, -7, -7, -7, -7};
        System.arraycopy(p, 0, r, 0, p.length);
        int answer = x.holds(kind, r[0], r[1], r[2], r[3], r[4], r[5]);
        return answer == 0 || answer == 1;
    }

    private static void ratioEdges() {
        // 3 is twice, 4 three times as far from 0 as 1 is; 2 is 1 once more, 5 is 0 once more.
        FactFinder x = made(3, 3, new int[] {0}, new int[] {0}, new int[] {1, 1, 1}, new int[] {8, 1, 0, 1},
                new int[] {8, 3, 0, 1}, new int[] {1, 0, 0}, new int[] {8, 4, 0, 1});
        holds(x, 1, 8, 0, 1, 0, 3);
        holds(x, 1, 8, 0, 1, 0, 4);
        holds(x, 1, 8, 0, 3, 0, 4);
        holds(x, 0, 8, 0, 1, 0, 6);
        holds(x, 1, 8, 0, 3, 0, 6);
        holds(x, 0, 8, 0, 1, 0, 2);
        holds(x, 1, 4, 0, 1, 0, 2);
        holds(x, 1, 8, 0, 5, 1, 2);
        holds(x, 1, 4, 0, 5, 1, 2);
        holds(x, 0, 8, 0, 1, 1, 2);
        due.is("m of 0, 1, 0, 3", 4, ratioNumber(x, 0, 1, 0, 3, 4));
        due.is("n of 0, 1, 0, 3", 1, ratioNumber(x, 0, 1, 0, 3, 5));
        due.is("m of 0, 3, 0, 4", 9, ratioNumber(x, 0, 3, 0, 4, 4));
        due.is("n of 0, 3, 0, 4", 4, ratioNumber(x, 0, 3, 0, 4, 5));
        due.is("m of 0, 3, 1, 3", 1, ratioNumber(x, 0, 3, 1, 3, 4));
        due.is("n of 0, 3, 1, 3", 4, ratioNumber(x, 0, 3, 1, 3, 5));
        due.is("0, 1, 0, 2 is not told", NONE, ratioNumber(x, 0, 1, 0, 2, 4));
        due.is("0, 5, 1, 2 is not told", NONE, ratioNumber(x, 0, 5, 1, 2, 4));
        x.draw(3, 1);
        holds(x, 1, 8, 0, 5, 1, 2);
        // 5 is three ways of 0, 1 and one across: 10 times |01|.
        FactFinder ten = made(3, 2, new int[] {0}, new int[] {0}, new int[] {7, 1, 0}, new int[] {8, 1, 0, 1},
                new int[] {8, 3, 0, 1}, new int[] {8, 4, 0, 2});
        holds(ten, 1, 8, 0, 1, 0, 4);
        holds(ten, 0, 8, 0, 1, 0, 5);
        holds(ten, 0, 8, 0, 4, 0, 5);
        holds(ten, 1, 8, 0, 3, 1, 5);
    }

    private static int ratioNumber(FactFinder x, int a, int b, int c, int d, int k) {
        int size = x.facts(8);
        for (int i = 0; i < size; i++) {
            if (x.fact(8, i, 0) == a && x.fact(8, i, 1) == b && x.fact(8, i, 2) == c && x.fact(8, i, 3) == d) {
                return x.fact(8, i, k);
            }
        }
        return NONE;
    }

    private static void toldInATriangle() {
        told(triangle(), 0, "");
        told(triangle(), 1, "016 017 028 059 067 129 158 167 247 256 345");
        told(triangle(), 2, "0167 0189 0269 0439 0617 0689 0716 0789 0869 1268 1438 1689 1789 1968 2436 2736 2869"
                + " 2968 3647 6789");
        told(triangle(), 3, "0124 0127 0136 0147 0214 0238 0412 0419 0429 0468 0624 0627 0636 0647 0724 0727 0736"
                + " 0747 0814 0838 1239 1428 1469 1624 1627 1636 1647 1724 1727 1736 1747 1939 2467 2489"
                + " 2767 2789 2838 2939 3667 3689 3869 3968 4767 4789");
        told(triangle(), 4, "0313 0323 0616 0689 0828 0869 0878 1323 1689 1929 1968 1979 2869 2878 2968 2979 6879 6978");
        told(triangle(), 5, "0167 0368 1369 2389 6789");
        told(triangle(), 8, "010614 011614 018914 020814 022814 026914 027814 043914 050994 055914 095919 121914"
                + " 122914 126814 127914 143814 151894 155814 185819 243614 252694 255614 265619 343519"
                + " 344549 354541");
        due.is("facts(7)", 121, triangle().facts(7));
        firstAreas(triangle(), "015025015125018019018026018029018126");
        FactFinder x = triangle();
        told(x, 6, "601 802 912");
        x.change(6, 0, 0, 0, 0, 0);
        told(x, 6, "802 912");
        x.clear();
        told(x, 6, "");
    }

    private static void firstAreas(FactFinder x, String points) {
        for (int at = 0; at < points.length(); at++) {
            due.is("fact(7, " + at / 6 + ", " + at % 6 + ")", points.charAt(at) - '0', x.fact(7, at / 6, at % 6));
        }
    }

    private static void toldOfSamePoints() {
        // 2, 3 are the middle of 0 and 1; 4 is 0 once more.
        FactFinder x = made(9, 4, new int[] {0}, new int[] {0}, new int[] {1, 0, 1}, new int[] {1, 0, 1},
                new int[] {1, 0, 0});
        told(x, 0, "04 23");
        told(x, 1, "012 013 124 134");
        told(x, 2, "");
        told(x, 3, "");
        told(x, 4, "0212 0313 1224 1334");
        told(x, 5, "");
        told(x, 6, "201 214 301 314");
        told(x, 7, "");
        told(x, 8, "010214 010314 011214 011314 121441 131441 142414 143414");
        holds(x, 1, 5, 0, 1, 2, 3);
        holds(x, 0, 6, 0, 1, 4);
        holds(x, 1, 2, 0, 4, 1, 2);
        due.is("places", 3, x.count(4));
    }

    private static void toldOfAreas() {
        // 3 is the middle of 0 and 1, 4 the mirror of 2 in 3.
        FactFinder x = made(4, 2, new int[] {0}, new int[] {0}, new int[] {0}, new int[] {1, 0, 1},
                new int[] {8, 3, 2, 3});
        told(x, 7, "012014 012024 012124 014024 014124 023034 023123 023134 024124 034123 034134 123134");
        holds(x, 1, 7, 0, 1, 3, 2, 3, 4);
        holds(x, 0, 7, 0, 1, 2, 0, 1, 3);
    }

    private static void factRefusals() {
        FactFinder x = triangle();
        for (int kind : new int[] {-1, 9, Integer.MIN_VALUE, Integer.MAX_VALUE}) {
            due.is("facts(" + kind + ")", BAD, x.facts(kind));
            due.is("fact(" + kind + ", 0, 0)", BAD, x.fact(kind, 0, 0));
            due.is("fact(" + kind + ", -1, -1)", BAD, x.fact(kind, -1, -1));
        }
        for (int kind = 1; kind < 9; kind++) {
            int last = x.facts(kind) - 1;
            due.isTrue("fact(" + kind + ", " + last + ", 0)", x.fact(kind, last, 0) >= 0);
            due.isTrue("fact(" + kind + ", 0, last k)", x.fact(kind, 0, WIDTH[kind] - 1) >= 0);
            due.is("fact(" + kind + ", " + (last + 1) + ", 0)", NONE, x.fact(kind, last + 1, 0));
            due.is("fact(" + kind + ", 0, " + WIDTH[kind] + ")", NONE, x.fact(kind, 0, WIDTH[kind]));
            for (int wrong : new int[] {-1, Integer.MIN_VALUE, Integer.MAX_VALUE}) {
                due.is("fact(" + kind + ", " + wrong + ", 0)", NONE, x.fact(kind, wrong, 0));
                due.is("fact(" + kind + ", 0, " + wrong + ")", NONE, x.fact(kind, 0, wrong));
            }
        }
        due.is("fact(0, 0, 0): none is told", NONE, x.fact(0, 0, 0));
    }

    private static void needs(FactFinder x, int kind, int i, String all) {
        StringBuilder got = new StringBuilder();
        for (int p = 0; p < x.count(0); p++) {
            got.append(x.needs(kind, i, p));
        }
        due.isTrue("needs(" + kind + ", " + i + "): " + got + ", due: " + all, all.contentEquals(got));
    }

    private static void needs() {
        FactFinder x = triangle();
        needs(x, 1, 0, "0000001000");
        needs(x, 1, 3, "0000010001");
        needs(x, 1, 10, "0001110000");
        needs(x, 5, 4, "0000001111");
        needs(x, 6, 0, "0000001000");
        needs(x, 8, 0, "0000001000");
        needs(x, 7, 0, "0000010000");
        due.is("needs changes nothing", 4, x.told(3, 0));
        holds(x, 1, 1, 3, 4, 5);

        // Through steps between: 3 is the middle of 0 and 2, which is the middle of 0 and 1.
        FactFinder chain = made(1, 3, new int[] {0}, new int[] {0}, new int[] {1, 0, 1}, new int[] {1, 0, 2});
        told(chain, 1, "012 013 023 123");
        needs(chain, 1, 0, "0010");
        needs(chain, 1, 1, "0011");
        needs(chain, 1, 2, "0001");
        needs(chain, 1, 3, "0011");
    }

    private static void needsRefusals() {
        FactFinder x = triangle();
        for (int wrong : WRONG) {
            due.is("needs(1, 0, " + wrong + ")", BAD, x.needs(1, 0, wrong));
            due.is("needs(1, -1, " + wrong + ")", BAD, x.needs(1, -1, wrong));
            due.is("needs(" + wrong + ", 0, 0)", BAD, x.needs(wrong, 0, 0));
        }
        due.is("needs(9, 0, 0)", BAD, x.needs(9, 0, 0));
        due.is("needs(1, 11, 0)", NONE, x.needs(1, 11, 0));
        due.is("needs(1, -1, 0)", NONE, x.needs(1, -1, 0));
        due.is("needs(0, 0, 0)", NONE, x.needs(0, 0, 0));
    }

    /** With 2 FREE, what is drawn for 3 is 0 in figure 0: 3 is 0, and 4 falls there. */
    private static void needsOfWhatFallsThen() {
        int seed = seedOfZero(7);
        FactFinder x = made(seed, 1, new int[] {0}, new int[] {0}, new int[] {1, 0, 1}, new int[] {9, 0, 1},
                new int[] {2, 2, 0, 3});
        told(x, 0, "24");
        told(x, 6, "201 401");
        due.is("standing", 1, x.count(2));
        due.is("fact(1, 1, 2)", 3, x.fact(1, 1, 2));
        due.is("needs(1, 1, 2): then no figure stands", 1, x.needs(1, 1, 2));
        x.draw(seed, 2);
        due.is("needs(1, 1, 2): then one stands", 0, x.needs(1, 1, 2));
        due.is("standing as before", 2, x.count(2));
    }

    private static void rowsAndRings() {
        FactFinder x = triangle();
        int[] rows = {56, 100, 148, 195, 261, 290, 518, 545};
        for (int k = 0; k < rows.length; k++) {
            due.is("row(" + k + ")", rows[k], x.row(k));
        }
        due.is("row(8)", NONE, x.row(8));
        int[] rings = {329, 586, 780, 960};
        for (int k = 0; k < rings.length; k++) {
            due.is("ring(" + k + ")", rings[k], x.ring(k));
        }
        due.is("ring(4)", NONE, x.ring(4));
        for (int wrong : WRONG) {
            due.is("row(" + wrong + ")", NONE, x.row(wrong));
            due.is("ring(" + wrong + ")", NONE, x.ring(wrong));
        }
        x.change(9, 0, 0, 0, 0, 0);
        due.is("ring(0) of a change", 329, x.ring(0));
        due.is("ring(1) of a change", NONE, x.ring(1));
        due.is("row(5) of a change", 290, x.row(5));
        due.is("row(6) of a change", NONE, x.row(6));
    }

    private static void rowsAndRingsOfSamePoints() {
        // 2 is 0 once more: two places make no row.
        FactFinder x = made(5, 2, new int[] {0}, new int[] {0}, new int[] {1, 0, 0});
        due.is("row(0) of two places", NONE, x.row(0));
        x.step(1, 0, 1, 0, 0);
        due.is("row(0) of three places", 15, x.row(0));
        due.is("row(1) of three places", NONE, x.row(1));
        // A square 0, 1, 2, 3, of which 4 is 0 and 5 is 1 once more.
        FactFinder y = made(5, 2, new int[] {0}, new int[] {0}, new int[] {7, 1, 0}, new int[] {1, 0, 0},
                new int[] {1, 1, 1});
        due.is("ring(0) of three places", NONE, y.ring(0));
        y.step(8, 1, 0, 2, 0);
        due.is("ring(0) of four places", 63, y.ring(0));
        due.is("ring(1) of four places", NONE, y.ring(1));
        due.is("row(0) of a square", NONE, y.row(0));
    }

    private static void noFigureStands() {
        FactFinder x = made(1, 5, new int[] {0}, new int[] {0}, new int[] {1, 0, 1}, new int[] {1, 0, 1},
                new int[] {0}, new int[] {0}, new int[] {2, 0, 1, 1});
        due.is("standing", 0, x.count(2));
        due.is("places", 7, x.count(4));
        holds(x, 0, 0, 2, 3);
        holds(x, 0, 1, 0, 1, 2);
        holds(x, 0, 2, 0, 2, 1, 3);
        holds(x, 0, 4, 0, 2, 0, 3);
        holds(x, 0, 5, 0, 1, 2, 3);
        holds(x, 0, 6, 2, 0, 1);
        holds(x, 0, 7, 0, 1, 2, 0, 1, 3);
        holds(x, 0, 8, 0, 1, 0, 2);
        holds(x, BAD, 0, 0, 7);
        for (int kind = 0; kind < 9; kind++) {
            due.is("facts(" + kind + ") of none that stands", 0, x.facts(kind));
        }
        due.is("row(0) of none that stands", NONE, x.row(0));
        due.is("ring(0) of none that stands", NONE, x.ring(0));
    }

    /** The first start whose number at a place in the row of numbers drawn is 0. */
    private static int seedOfZero(int index) {
        for (int seed = 1; seed <= 1000000; seed++) {
            long state = seed;
            for (int i = 0; i < index; i++) {
                state = state * 48271 % 2147483647;
            }
            if (state % 1000003 == 0) {
                return seed;
            }
        }
        return NONE;
    }

    /** In figure 0 alone the point 2, on the line of 0 and 1, falls on 0. */
    private static void oneFigureIsOdd() {
        int seed = seedOfZero(5);
        FactFinder x = made(seed, 1, new int[] {0}, new int[] {0}, new int[] {9, 0, 1}, new int[] {1, 0, 2});
        told(x, 0, "02 03 23");
        x.draw(seed, 2);
        told(x, 0, "");
        due.is("places", 4, x.count(4));
        due.is("x of 0", x.place(0, 0, 0), x.place(0, 2, 0));
        holds(x, 1, 1, 0, 2, 3);
        told(x, 4, "0323");
        told(x, 6, "302");
        told(x, 8, "020314 022314");
        holds(x, 0, 8, 0, 1, 0, 2);
        due.is("row(0)", 15, x.row(0));
        x.step(2, 1, 0, 2, 0);
        due.is("falls(0)", 4, x.falls(0));
        due.is("falls(1)", NONE, x.falls(1));
        due.is("standing", 1, x.count(2));
        due.is("place in what falls", NONE, x.place(0, 4, 0));
        due.isTrue("place in what stands", x.place(1, 4, 0) >= 0);
        told(x, 0, "14");
        // A point off the line: all its triples with two of 0, 2, 3 have area 0 in figure 0 alone.
        x.change(4, 0, 0, 0, 0, 0);
        holds(x, 0, 1, 0, 2, 4);
        holds(x, 1, 7, 0, 3, 4, 2, 3, 4);
        told(x, 7, "034234");
    }

    /** With t = 0 the point 2, on the circle about 0 through 1, has the y of 1, but not its x. */
    private static void onlyOneAxisAgrees() {
        FactFinder x = made(seedOfZero(5), 1, new int[] {0}, new int[] {0}, new int[] {10, 0, 1},
                new int[] {1, 1, 1}, new int[] {7, 1, 0}, new int[] {7, 2, 0}, new int[] {1, 4, 4});
        due.is("y of 2", x.place(0, 1, 1), x.place(0, 2, 1));
        holds(x, 0, 0, 1, 2);
        holds(x, 0, 6, 3, 1, 2);
        due.is("x of 5", x.place(0, 4, 0), x.place(0, 5, 0));
        holds(x, 0, 0, 4, 5);
        holds(x, 0, 6, 6, 4, 5);
        told(x, 0, "13 46");
    }

    private static void clearedPointsAreGone() {
        FactFinder x = triangle();
        x.clear();
        for (int p = 0; p < 3; p++) {
            x.step(0, 0, 0, 0, 0);
        }
        for (int kind = 0; kind < 9; kind++) {
            told(x, kind, "");
        }
        due.is("row(0)", NONE, x.row(0));
        due.is("ring(0)", NONE, x.ring(0));
        due.is("places", 3, x.count(4));
        holds(x, BAD, 1, 0, 1, 3);
    }

    private static void tenPointsOnALine() {
        FactFinder x = made(8, 5, new int[] {0}, new int[] {0}, new int[] {9, 0, 1}, new int[] {9, 0, 1},
                new int[] {9, 0, 1}, new int[] {9, 0, 1}, new int[] {9, 0, 1}, new int[] {9, 0, 1},
                new int[] {9, 0, 1}, new int[] {9, 0, 1});
        due.is("all lines", 120, x.facts(1));
        due.is("all parallels", 630, x.facts(2));
        due.is("no right angle", 0, x.facts(3));
        due.is("all circles", 210, x.facts(5));
        due.is("no areas", 0, x.facts(7));
        due.is("the only row", 1023, x.row(0));
        due.is("no second row", NONE, x.row(1));
        due.is("no ring", NONE, x.ring(0));
        FactFinder y = made(8, 5, new int[] {0}, new int[] {1, 0, 0}, new int[] {1, 0, 0}, new int[] {1, 0, 0},
                new int[] {1, 0, 0}, new int[] {1, 0, 0}, new int[] {1, 0, 0}, new int[] {1, 0, 0},
                new int[] {1, 0, 0}, new int[] {1, 0, 0});
        due.is("all SAME", 45, y.facts(0));
        due.is("one place", 1, y.count(4));
        due.is("no lines", 0, y.facts(1));
    }
}
