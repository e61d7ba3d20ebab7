import java.util.Arrays;
import java.util.HashMap;
import java.util.Map;

/** Objects made by rows of steps, and all that can be seen of one by few calls. */
final class Made {
    static final int NONE = FactFinder.NONE, BAD = FactFinder.BAD, FULL = FactFinder.FULL;
    static final int P = 1000003;
    static final int MIN = Integer.MIN_VALUE, MAX = Integer.MAX_VALUE;
    static final int[] STEP_POINTS = {0, 2, 3, 4, 3, 3, 3, 2, 3, 2, 2, 4, 3, 3};
    static final int[] FACT_POINTS = {2, 3, 4, 4, 4, 4, 3, 6, 4};
    static final int[] FACT_WIDTH = {2, 3, 4, 4, 4, 4, 3, 6, 6};

    private static final Map<String, Integer> SEEDS = new HashMap<>();

    private Made() {
    }

    /** A step as a row: its kind, and the points that it is made from. */
    static int[] s(int... step) {
        return step;
    }

    static FactFinder of(int seed, int figures, int[]... steps) {
        FactFinder x = new FactFinder();
        x.draw(seed, figures);
        for (int[] step : steps) {
            step(x, step);
        }
        return x;
    }

    static int step(FactFinder x, int... step) {
        int[] r = Arrays.copyOf(step, 5);
        return x.step(r[0], r[1], r[2], r[3], r[4]);
    }

    static int change(FactFinder x, int point, int... step) {
        int[] r = Arrays.copyOf(step, 5);
        return x.change(point, r[0], r[1], r[2], r[3], r[4]);
    }

    /** Points that the kind does not need are wrong ones: they count for nothing. */
    static int holds(FactFinder x, int kind, int... points) {
        int[] r = {-7, MAX, MIN, -7, 10, MAX};
        System.arraycopy(points, 0, r, 0, points.length);
        return x.holds(kind, r[0], r[1], r[2], r[3], r[4], r[5]);
    }

    /** n points, all FREE, in one figure with the seed 1. */
    static FactFinder free(int n) {
        FactFinder x = new FactFinder();
        for (int p = 0; p < n; p++) {
            step(x, 0);
        }
        return x;
    }

    /** The i-th number, from 1, that a figure draws whose state is start at first. */
    static int drawn(long start, int i) {
        long state = start;
        for (int k = 0; k < i; k++) {
            state = state * 48271 % 2147483647;
        }
        return (int) (state % P);
    }

    /** The least seed whose i-th number in figure 0 is the one given; kept, as it is long sought. */
    static int seedOf(int i, int number) {
        return SEEDS.computeIfAbsent(i + " " + number, key -> seekSeed(i, number));
    }

    private static int seekSeed(int i, int number) {
        for (int seed = 1; seed <= 1000000; seed++) {
            if (drawn(seed, i) == number) {
                return seed;
            }
        }
        throw new IllegalStateException("no seed draws " + number + " as its number " + i);
    }

    /** All facts of a kind that are told, a blank between two; some 512 calls tell a hundred. */
    static String told(FactFinder x, int kind) {
        StringBuilder text = new StringBuilder();
        int size = x.facts(kind);
        for (int i = 0; i < size; i++) {
            text.append(i == 0 ? "" : " ");
            for (int k = 0; k < FACT_WIDTH[kind]; k++) {
                text.append(x.fact(kind, i, k));
            }
        }
        return text.toString();
    }

    /** What needs() answers of a fact for each point, in one text. */
    static String needs(FactFinder x, int kind, int i) {
        StringBuilder text = new StringBuilder();
        int size = x.count(0);
        for (int p = 0; p < size; p++) {
            text.append(x.needs(kind, i, p));
        }
        return text.toString();
    }

    static String rows(FactFinder x) {
        StringBuilder text = new StringBuilder();
        for (int k = 0; x.row(k) != NONE; k++) {
            text.append(k == 0 ? "" : " ").append(x.row(k));
        }
        return text.toString();
    }

    static String rings(FactFinder x) {
        StringBuilder text = new StringBuilder();
        for (int k = 0; x.ring(k) != NONE; k++) {
            text.append(k == 0 ? "" : " ").append(x.ring(k));
        }
        return text.toString();
    }

    /** All that can be seen: numbers, steps, places, how many facts and the last of each kind, sets. */
    static String view(FactFinder x) {
        StringBuilder text = new StringBuilder("counts");
        for (int what = 0; what < 5; what++) {
            text.append(' ').append(x.count(what));
        }
        int points = x.count(0);
        int figures = x.count(1);
        for (int p = 0; p < points; p++) {
            text.append("; point ").append(p).append(": step");
            for (int what = 0; what < 5; what++) {
                text.append(' ').append(x.told(p, what));
            }
            for (int g = 0; g < figures; g++) {
                text.append(" (").append(x.place(g, p, 0)).append(", ").append(x.place(g, p, 1)).append(')');
            }
        }
        for (int g = 0; g < figures; g++) {
            text.append("; falls ").append(x.falls(g));
        }
        for (int kind = 0; kind < 9; kind++) {
            int size = x.facts(kind);
            text.append("; facts ").append(size).append(':');
            for (int k = 0; k < FACT_WIDTH[kind]; k++) {
                text.append(' ').append(x.fact(kind, size - 1, k));
            }
        }
        return text.append("; rows ").append(rows(x)).append("; rings ").append(rings(x)).toString();
    }
}
