import java.math.BigInteger;
import java.util.ArrayList;
import java.util.Arrays;
import java.util.List;
import java.util.TreeSet;

/**
 * The document told once more, as plainly and as slowly as it reads: nothing is kept, facts are
 * sought among all rows of points, and the formulas are other ones than FactFinder's where there
 * are others.
 */
final class Reference {
    static final int NONE = -1, BAD = -2, FULL = -3;
    static final long P = 1000003;
    static final int[] STEP_POINTS = {0, 2, 3, 4, 3, 3, 3, 2, 3, 2, 2, 4, 3, 3};
    static final int[] FACT_POINTS = {2, 3, 4, 4, 4, 4, 3, 6, 4};

    private List<int[]> steps = new ArrayList<>();
    private int seed = 1;
    private int figures = 1;

    /** The places of each figure, a null from the first point on that falls. */
    private long[][][] places;
    private List<List<int[]>> told;

    Reference() {
        renew();
    }

    private Reference(Reference other, int freed) {
        steps = new ArrayList<>(other.steps);
        steps.set(freed, new int[] {0, NONE, NONE, NONE, NONE});
        seed = other.seed;
        figures = other.figures;
        renew();
    }

    private void renew() {
        places = new long[figures][steps.size()][];
        for (int g = 0; g < figures; g++) {
            drawFigure(g);
        }
        told = new ArrayList<>();
        for (int kind = 0; kind < 9; kind++) {
            told.add(null);
        }
    }

    // ---- the face

    int clear() {
        int size = steps.size();
        steps.clear();
        renew();
        return size;
    }

    int step(int kind, int... from) {
        if (!goodStep(kind, from, steps.size())) {
            return BAD;
        }
        if (steps.size() == 10) {
            return FULL;
        }
        steps.add(stepRow(kind, from));
        renew();
        return steps.size() - 1;
    }

    int change(int point, int kind, int... from) {
        if (!there(point) || !goodStep(kind, from, point)) {
            return BAD;
        }
        int before = steps.get(point)[0];
        steps.set(point, stepRow(kind, from));
        renew();
        return before;
    }

    int draw(int newSeed, int newFigures) {
        if (newSeed < 1 || newSeed > 1000000 || newFigures < 1 || newFigures > 5) {
            return BAD;
        }
        seed = newSeed;
        figures = newFigures;
        renew();
        return standing();
    }

    int count(int what) {
        switch (what) {
            case 0: return steps.size();
            case 1: return figures;
            case 2: return standing();
            case 3: return seed;
            case 4: return placesIn((1 << steps.size()) - 1);
            default: return BAD;
        }
    }

    int told(int point, int what) {
        return there(point) && what >= 0 && what <= 4 ? steps.get(point)[what] : BAD;
    }

    int falls(int figure) {
        if (figure < 0 || figure >= figures) {
            return BAD;
        }
        for (int p = 0; p < steps.size(); p++) {
            if (places[figure][p] == null) {
                return p;
            }
        }
        return NONE;
    }

    int place(int figure, int point, int axis) {
        if (figure < 0 || figure >= figures || !there(point) || (axis != 0 && axis != 1)) {
            return BAD;
        }
        return places[figure][point] == null ? NONE : (int) places[figure][point][axis];
    }

    int holds(int kind, int... points) {
        if (kind < 0 || kind > 8) {
            return BAD;
        }
        int[] row = Arrays.copyOf(points, FACT_POINTS[kind]);
        for (int p : row) {
            if (!there(p)) {
                return BAD;
            }
        }
        if (!asTheyMust(kind, row)) {
            return BAD;
        }
        return hold(kind, row) ? 1 : 0;
    }

    int facts(int kind) {
        return kind < 0 || kind > 8 ? BAD : allTold(kind).size();
    }

    int fact(int kind, int i, int k) {
        if (kind < 0 || kind > 8) {
            return BAD;
        }
        List<int[]> all = allTold(kind);
        if (i < 0 || i >= all.size() || k < 0) {
            return NONE;
        }
        int[] row = all.get(i);
        if (k < row.length) {
            return row[k];
        }
        return kind == 8 && k <= 5 ? numbers(row)[k - 4] : NONE;
    }

    int needs(int kind, int i, int point) {
        if (kind < 0 || kind > 8 || !there(point)) {
            return BAD;
        }
        List<int[]> all = allTold(kind);
        if (i < 0 || i >= all.size()) {
            return NONE;
        }
        return new Reference(this, point).hold(kind, all.get(i)) ? 0 : 1;
    }

    int row(int k) {
        TreeSet<Integer> sets = new TreeSet<>();
        for (int p = 0; p < steps.size(); p++) {
            for (int q = 0; q < steps.size(); q++) {
                if (!same(p, q)) {
                    int set = 0;
                    for (int r = 0; r < steps.size(); r++) {
                        if (same(r, p) || same(r, q) || hold(1, p, q, r)) {
                            set |= 1 << r;
                        }
                    }
                    if (placesIn(set) >= 3) {
                        sets.add(set);
                    }
                }
            }
        }
        return nth(sets, k);
    }

    int ring(int k) {
        TreeSet<Integer> sets = new TreeSet<>();
        int size = steps.size();
        for (int p = 0; p < size; p++) {
            for (int q = p + 1; q < size; q++) {
                for (int r = q + 1; r < size; r++) {
                    if (same(p, q) || same(p, r) || same(q, r) || hold(1, p, q, r)) {
                        continue;
                    }
                    int set = 0;
                    for (int s = 0; s < size; s++) {
                        if (same(s, p) || same(s, q) || same(s, r) || hold(5, p, q, r, s)) {
                            set |= 1 << s;
                        }
                    }
                    if (placesIn(set) >= 4) {
                        sets.add(set);
                    }
                }
            }
        }
        return nth(sets, k);
    }

    private static int nth(TreeSet<Integer> sets, int k) {
        List<Integer> all = new ArrayList<>(sets);
        return k >= 0 && k < all.size() ? all.get(k) : NONE;
    }

    // ---- steps

    private boolean there(int point) {
        return point >= 0 && point < steps.size();
    }

    private static boolean goodStep(int kind, int[] from, int limit) {
        if (kind < 0 || kind > 13) {
            return false;
        }
        for (int k = 0; k < STEP_POINTS[kind]; k++) {
            if (from[k] < 0 || from[k] >= limit) {
                return false;
            }
        }
        return true;
    }

    private static int[] stepRow(int kind, int[] from) {
        int[] row = {kind, NONE, NONE, NONE, NONE};
        System.arraycopy(from, 0, row, 1, STEP_POINTS[kind]);
        return row;
    }

    private int standing() {
        int sum = 0;
        for (int g = 0; g < figures; g++) {
            sum += falls(g) == NONE ? 1 : 0;
        }
        return sum;
    }

    private void drawFigure(int g) {
        long[] state = {seed + 1000L * g};
        long[][] at = places[g];
        for (int p = 0; p < steps.size(); p++) {
            int[] s = steps.get(p);
            long[][] v = new long[4][];
            for (int k = 0; k < STEP_POINTS[s[0]]; k++) {
                v[k] = at[s[k + 1]];
            }
            at[p] = make(s[0], v[0], v[1], v[2], v[3], state);
            if (at[p] == null) {
                return;
            }
        }
    }

    private static long drawn(long[] state) {
        state[0] = BigInteger.valueOf(state[0]).multiply(BigInteger.valueOf(48271))
                .mod(BigInteger.valueOf(2147483647)).longValueExact();
        return state[0] % P;
    }

    private static long[] make(int kind, long[] a, long[] b, long[] c, long[] d, long[] state) {
        switch (kind) {
            case 0: {
                long x = drawn(state);
                return new long[] {x, drawn(state)};
            }
            case 1: return times(over(2), plus(a, b));
            case 2: return foot(a, b, c);
            case 3: return meet(a, b, c, d);
            case 4: return centre(a, b, c);
            case 5: {
                long[] o = centre(a, b, c);
                return o == null ? null : less(plus(plus(a, b), c), times(2, o));
            }
            case 6: {
                long[] f = foot(a, b, c);
                return f == null ? null : less(times(2, f), a);
            }
            case 7: {
                long[] w = less(a, b);
                return plus(b, new long[] {mod(-w[1]), w[0]});
            }
            case 8: return less(plus(a, c), b);
            case 9: return plus(a, times(drawn(state), less(b, a)));
            case 10: {
                long[] w = {1, drawn(state)};
                if (dot(w, w) == 0) {
                    return null;
                }
                return less(b, times(mod(2 * mod(dot(w, less(b, a)) * over(dot(w, w)))), w));
            }
            case 11: {
                long[] o = centre(a, c, d);
                long[] f = o == null ? null : foot(o, a, b);
                return f == null ? null : less(times(2, f), a);
            }
            case 12: return times(over(3), plus(plus(a, b), c));
            case 13: {
                long[] w = less(a, b);
                return dot(w, w) == 0 ? null : plus(b, times(mod(far(b, c) * over(far(b, a))), w));
            }
            default: throw new IllegalStateException("kind " + kind);
        }
    }

    private static long[] foot(long[] a, long[] b, long[] c) {
        long[] w = less(c, b);
        return dot(w, w) == 0 ? null : plus(b, times(mod(dot(less(a, b), w) * over(dot(w, w))), w));
    }

    /** By the two lines' equations n . p = n . a, n across the line, and Cramer's rule. */
    private static long[] meet(long[] a, long[] b, long[] c, long[] d) {
        long[] w = less(b, a);
        long[] v = less(d, c);
        long[] n = {mod(-w[1]), w[0]};
        long[] m = {mod(-v[1]), v[0]};
        return solve(n, dot(n, a), m, dot(m, c));
    }

    /** By 2 (b - a) . o = b . b - a . a, and the same of c. */
    private static long[] centre(long[] a, long[] b, long[] c) {
        return solve(times(2, less(b, a)), mod(dot(b, b) - dot(a, a)),
                times(2, less(c, a)), mod(dot(c, c) - dot(a, a)));
    }

    private static long[] solve(long[] n, long r, long[] m, long s) {
        long det = cross(n, m);
        if (det == 0) {
            return null;
        }
        return times(over(det), new long[] {mod(r * m[1] - s * n[1]), mod(n[0] * s - m[0] * r)});
    }

    private static long mod(long v) {
        return Math.floorMod(v, P);
    }

    private static long over(long v) {
        return BigInteger.valueOf(v).modInverse(BigInteger.valueOf(P)).longValueExact();
    }

    private static long[] plus(long[] a, long[] b) {
        return new long[] {mod(a[0] + b[0]), mod(a[1] + b[1])};
    }

    private static long[] less(long[] a, long[] b) {
        return new long[] {mod(a[0] - b[0]), mod(a[1] - b[1])};
    }

    private static long[] times(long t, long[] a) {
        return new long[] {mod(t * a[0]), mod(t * a[1])};
    }

    private static long dot(long[] a, long[] b) {
        return mod(a[0] * b[0] + a[1] * b[1]);
    }

    private static long cross(long[] a, long[] b) {
        return mod(a[0] * b[1] - a[1] * b[0]);
    }

    private static long far(long[] a, long[] b) {
        return dot(less(b, a), less(b, a));
    }

    // ---- facts

    private static boolean asTheyMust(int kind, int[] r) {
        switch (kind) {
            case 0: return r[0] < r[1];
            case 1: return r[0] < r[1] && r[1] < r[2];
            case 2:
            case 3:
            case 4:
            case 8:
                if (kind == 2 && Arrays.stream(r).distinct().count() < 4) {
                    return false;
                }
                return r[0] < r[1] && r[2] < r[3] && (r[0] < r[2] || (r[0] == r[2] && r[1] < r[3]));
            case 5: return r[0] < r[1] && r[1] < r[2] && r[2] < r[3];
            case 6: return r[1] < r[2] && r[0] != r[1] && r[0] != r[2];
            default:
                return r[0] < r[1] && r[1] < r[2] && r[3] < r[4] && r[4] < r[5]
                        && Arrays.compare(r, 0, 3, r, 3, 6) < 0;
        }
    }

    private boolean hold(int kind, int... r) {
        if (kind == 8) {
            return numbers(r) != null;
        }
        return inAllThatStand(at -> trueIn(at, kind, r));
    }

    private interface Test {
        boolean of(long[][] places);
    }

    private boolean inAllThatStand(Test test) {
        for (int g = 0; g < figures; g++) {
            if (falls(g) == NONE && !test.of(places[g])) {
                return false;
            }
        }
        return standing() > 0;
    }

    private static long area(long[][] at, int a, int b, int c) {
        return cross(less(at[b], at[a]), less(at[c], at[a]));
    }

    private static boolean trueIn(long[][] at, int kind, int[] r) {
        switch (kind) {
            case 0: return Arrays.equals(at[r[0]], at[r[1]]);
            case 1: return area(at, r[0], r[1], r[2]) == 0;
            case 2: return cross(less(at[r[1]], at[r[0]]), less(at[r[3]], at[r[2]])) == 0;
            case 3: return dot(less(at[r[1]], at[r[0]]), less(at[r[3]], at[r[2]])) == 0;
            case 4: return far(at[r[0]], at[r[1]]) == far(at[r[2]], at[r[3]]);
            case 5: {
                long[][] rows = new long[4][];
                for (int k = 0; k < 4; k++) {
                    long[] p = at[r[k]];
                    rows[k] = new long[] {dot(p, p), p[0], p[1], 1};
                }
                return determinant(rows) == 0;
            }
            case 6: return Arrays.equals(times(2, at[r[0]]), plus(at[r[1]], at[r[2]]));
            default: {
                long one = area(at, r[0], r[1], r[2]);
                long two = area(at, r[3], r[4], r[5]);
                return mod(one * one) == mod(two * two);
            }
        }
    }

    private static long determinant(long[][] rows) {
        int size = rows.length;
        if (size == 1) {
            return rows[0][0];
        }
        long sum = 0;
        for (int k = 0; k < size; k++) {
            long[][] rest = new long[size - 1][size - 1];
            for (int i = 1; i < size; i++) {
                for (int j = 0, to = 0; j < size; j++) {
                    if (j != k) {
                        rest[i - 1][to++] = rows[i][j];
                    }
                }
            }
            long part = mod(rows[0][k] * determinant(rest));
            sum = mod(k % 2 == 0 ? sum + part : sum - part);
        }
        return sum;
    }

    private int[] numbers(int[] r) {
        for (int m = 1; m <= 9; m++) {
            for (int n = 1; n <= 9; n++) {
                long fm = m;
                long fn = n;
                if (m != n && inAllThatStand(at -> mod(fm * far(at[r[0]], at[r[1]]))
                        == mod(fn * far(at[r[2]], at[r[3]])))) {
                    return new int[] {m, n};
                }
            }
        }
        return null;
    }

    private boolean same(int p, int q) {
        return p == q || hold(0, p, q);
    }

    private int placesIn(int set) {
        int sum = 0;
        for (int p = 0; p < steps.size(); p++) {
            boolean first = (set >> p & 1) == 1;
            for (int q = 0; q < p; q++) {
                if ((set >> q & 1) == 1 && same(q, p)) {
                    first = false;
                }
            }
            sum += first ? 1 : 0;
        }
        return sum;
    }

    private List<int[]> allTold(int kind) {
        if (told.get(kind) == null) {
            List<int[]> all = new ArrayList<>();
            if (standing() > 0) {
                seek(kind, new int[FACT_POINTS[kind]], 0, all);
            }
            told.set(kind, all);
        }
        return told.get(kind);
    }

    private void seek(int kind, int[] row, int k, List<int[]> all) {
        if (k < row.length) {
            for (int p = 0; p < steps.size(); p++) {
                row[k] = p;
                seek(kind, row, k + 1, all);
            }
        } else if (asTheyMust(kind, row) && hold(kind, row) && isTold(kind, row)) {
            all.add(row.clone());
        }
    }

    private boolean isTold(int kind, int[] r) {
        if (kind == 0) {
            return true;
        }
        for (int p : r) {
            for (int q : r) {
                if (p != q && same(p, q)) {
                    return false;
                }
            }
        }
        if (kind == 7) {
            return !inAllThatStand(at -> area(at, r[0], r[1], r[2]) == 0)
                    && !inAllThatStand(at -> area(at, r[3], r[4], r[5]) == 0);
        }
        if (kind == 2 || kind == 3 || kind == 4 || kind == 8) {
            return !inAllThatStand(at -> far(at[r[0]], at[r[1]]) == 0)
                    && !inAllThatStand(at -> far(at[r[2]], at[r[3]]) == 0);
        }
        return true;
    }
}
