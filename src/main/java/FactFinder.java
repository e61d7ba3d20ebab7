/**
 * Facts of figures: points are made one from the other by steps, drawn several times with
 * numbers modulo a prime, and what is true in every drawing that stands is found.
 *
 * <p>The promises and the words used here (step, falls, stands, told, row, ring, needs) are those
 * of the project's document.
 */
public final class FactFinder {
    public static final int NONE = -1, BAD = -2, FULL = -3;

    private static final int P = 1000003;
    /** One half and one third modulo P. */
    private static final long HALF = 500002, THIRD = 666669;

    private static final int MOST_POINTS = 10, MOST_FIGURES = 5, MOST_SEED = 1000000;
    private static final int MOST_TRIPLES = 120;

    /**
     * A fact is kept in one int, four bits for each point, so rows that are indexed by a point of
     * a fact have a place for all that four bits can say.
     */
    private static final int POINT_BITS = 4, POINT_MASK = 15, ROOM = 16;

    /** How many points a step of each kind is made from. */
    private static final int[] STEP_POINTS = {0, 2, 3, 4, 3, 3, 3, 2, 3, 2, 2, 4, 3, 3};
    private static final int FREE = 0, MIDDLE_OF = 1, FOOT = 2, MEET = 3, CENTRE = 4, HEIGHTS = 5,
            MIRROR = 6, QUARTER = 7, SHIFT = 8, ON_LINE = 9, ON_CIRCLE = 10, OTHER_MEET = 11,
            THIRD_PART = 12, TURNED_OUT = 13;
    private static final int MOST_FROM = 4;

    private static final int SAME = 0, LINE = 1, PARALLEL = 2, RIGHT = 3, EQUAL = 4, CIRCLE = 5,
            MIDDLE = 6, AREAS = 7, RATIO = 8;
    private static final int FACT_KINDS = 9;
    /** How many points a fact of each kind is of. */
    private static final int[] FACT_POINTS = {2, 3, 4, 4, 4, 4, 3, 6, 4};
    /** How many numbers a fact of each kind tells: its points, and of RATIO its two numbers. */
    private static final int[] FACT_WIDTH = {2, 3, 4, 4, 4, 4, 3, 6, 6};
    /** How many facts of each kind ten points can have at most. */
    private static final int[] MOST_FACTS = {45, 120, 630, 990, 990, 210, 360, 7140, 990};
    private static final int MOST_RATIO_NUMBER = 9;

    /** What Findings knows already, beside the facts of each kind: bits of one number. */
    private static final int LEADS_KNOWN = 9, ROWS_KNOWN = 10, RINGS_KNOWN = 11;
    private static final int MOST_ROWS = 45, MOST_RINGS = 120;

    private final Plan plan = new Plan();
    private final Findings findings = new Findings();
    /** Drawn for needs() alone, with one step made FREE. */
    private final Drawing trial = new Drawing();
    private int seed = 1;
    private int figures = 1;

    public FactFinder() {
        drawAll();
    }

    public int clear() {
        int before = plan.size;
        plan.size = 0;
        drawAll();
        return before;
    }

    public int step(int kind, int a, int b, int c, int d) {
        if (!isStep(kind, a, b, c, d, plan.size)) {
            return BAD;
        }
        if (plan.size >= MOST_POINTS) {
            return FULL;
        }
        int point = plan.size;
        plan.write(point, kind, a, b, c, d);
        plan.size = point + 1;
        findings.drawing.goOn(plan, NONE);
        findings.forget(plan.size);
        return point;
    }

    public int change(int point, int kind, int a, int b, int c, int d) {
        if (!isThere(point) || !isStep(kind, a, b, c, d, point)) {
            return BAD;
        }
        int before = plan.kinds[point];
        plan.write(point, kind, a, b, c, d);
        drawAll();
        return before;
    }

    public int draw(int seed, int figures) {
        if (seed < 1 || seed > MOST_SEED || figures < 1 || figures > MOST_FIGURES) {
            return BAD;
        }
        this.seed = seed;
        this.figures = figures;
        drawAll();
        return findings.drawing.standing;
    }

    public int count(int what) {
        switch (what) {
            case 0:
                return plan.size;
            case 1:
                return figures;
            case 2:
                return findings.drawing.standing;
            case 3:
                return seed;
            case 4:
                return findings.countPlaces();
            default:
                return BAD;
        }
    }

    public int told(int point, int what) {
        if (!isThere(point) || what < 0 || what > MOST_FROM) {
            return BAD;
        }
        int kind = plan.kinds[point];
        if (what == 0) {
            return kind;
        }
        return what <= STEP_POINTS[kind] ? plan.from(point, what - 1) : NONE;
    }

    public int falls(int figure) {
        if (figure < 0 || figure >= figures) {
            return BAD;
        }
        return findings.drawing.sheets[figure].fallen;
    }

    public int place(int figure, int point, int axis) {
        if (figure < 0 || figure >= figures || !isThere(point) || axis < 0 || axis > 1) {
            return BAD;
        }
        Figure sheet = findings.drawing.sheets[figure];
        if (point >= sheet.made) {
            return NONE;
        }
        return axis == 0 ? sheet.x[point] : sheet.y[point];
    }

    public int holds(int kind, int a, int b, int c, int d, int e, int f) {
        if (!isFactKind(kind) || !areThere(FACT_POINTS[kind], a, b, c, d, e, f)
                || !isFact(kind, a, b, c, d, e, f)) {
            return BAD;
        }
        int points = FACT_POINTS[kind];
        int fact = pack(a, b, points > 2 ? c : 0);
        if (points > 3) {
            fact = join(fact, pack(d, points > 4 ? e : 0, points > 4 ? f : 0));
        }
        return findings.drawing.bears(kind, fact) ? 1 : 0;
    }

    public int facts(int kind) {
        return isFactKind(kind) ? findings.list(kind).size : BAD;
    }

    public int fact(int kind, int i, int k) {
        if (!isFactKind(kind)) {
            return BAD;
        }
        IntList list = findings.list(kind);
        if (!list.has(i) || k < 0 || k >= FACT_WIDTH[kind]) {
            return NONE;
        }
        return unpack(list.items[i], k);
    }

    public int needs(int kind, int i, int point) {
        if (!isFactKind(kind) || !isThere(point)) {
            return BAD;
        }
        IntList list = findings.list(kind);
        if (!list.has(i)) {
            return NONE;
        }
        trial.begin(seed, figures);
        trial.goOn(plan, point);
        return trial.bears(kind, list.items[i]) ? 0 : 1;
    }

    public int row(int k) {
        IntList rows = findings.allRows();
        return rows.has(k) ? rows.items[k] : NONE;
    }

    public int ring(int k) {
        IntList rings = findings.allRings();
        return rings.has(k) ? rings.items[k] : NONE;
    }

    private void drawAll() {
        findings.drawing.begin(seed, figures);
        findings.drawing.goOn(plan, NONE);
        findings.forget(plan.size);
    }

    private boolean isThere(int point) {
        return point >= 0 && point < plan.size;
    }

    /** Whether a step is one, if it may be made from the points less than limit. */
    private static boolean isStep(int kind, int a, int b, int c, int d, int limit) {
        if (kind < 0 || kind >= STEP_POINTS.length) {
            return false;
        }
        int points = STEP_POINTS[kind];
        return (points < 1 || a >= 0 && a < limit) && (points < 2 || b >= 0 && b < limit)
                && (points < 3 || c >= 0 && c < limit) && (points < 4 || d >= 0 && d < limit);
    }

    private static boolean isFactKind(int kind) {
        return kind >= 0 && kind < FACT_KINDS;
    }

    private boolean areThere(int points, int a, int b, int c, int d, int e, int f) {
        return isThere(a) && isThere(b) && (points < 3 || isThere(c)) && (points < 4 || isThere(d))
                && (points < 5 || isThere(e)) && (points < 6 || isThere(f));
    }

    /** Whether points that are there are in the order that the kind wants. */
    private static boolean isFact(int kind, int a, int b, int c, int d, int e, int f) {
        switch (kind) {
            case SAME:
                return a < b;
            case LINE:
                return a < b && b < c;
            case PARALLEL:
                return areTwoPairs(a, b, c, d) && areApartPairs(a, b, c, d);
            case RIGHT:
            case EQUAL:
            case RATIO:
                return areTwoPairs(a, b, c, d);
            case CIRCLE:
                return a < b && b < c && c < d;
            case MIDDLE:
                return b < c && a != b && a != c;
            case AREAS:
                return a < b && b < c && d < e && e < f
                        && (a < d || a == d && (b < e || b == e && c < f));
            default:
                return false;
        }
    }

    private static boolean areTwoPairs(int a, int b, int c, int d) {
        return a < b && c < d && (a < c || a == c && b < d);
    }

    private static boolean areApartPairs(int a, int b, int c, int d) {
        return a != c && a != d && b != c && b != d;
    }

    private static int pack(int a, int b, int c) {
        return a | b << POINT_BITS | c << 2 * POINT_BITS;
    }

    /** The fact whose first three points are of first and whose others are of second. */
    private static int join(int first, int second) {
        return first | second << 3 * POINT_BITS;
    }

    private static int unpack(int fact, int k) {
        return fact >> k * POINT_BITS & POINT_MASK;
    }

    /** One divided by value, which is not 0 modulo P: its power P - 2; less than 0 if value is. */
    private static long invert(long value) {
        long result = 1;
        long power = value % P;
        for (int exponent = P - 2; exponent > 0; exponent >>= 1) {
            if ((exponent & 1) == 1) {
                result = result * power % P;
            }
            power = power * power % P;
        }
        return result;
    }

    /** The steps of all points. */
    private static final class Plan {
        final int[] kinds = new int[MOST_POINTS];
        private final int[] sources = new int[MOST_POINTS * MOST_FROM];
        int size;

        /** What the kind does not need is kept as point 0, so that every source is a point. */
        void write(int point, int kind, int a, int b, int c, int d) {
            int points = STEP_POINTS[kind];
            int at = point * MOST_FROM;
            kinds[point] = kind;
            sources[at] = points > 0 ? a : 0;
            sources[at + 1] = points > 1 ? b : 0;
            sources[at + 2] = points > 2 ? c : 0;
            sources[at + 3] = points > 3 ? d : 0;
        }

        int from(int point, int k) {
            return sources[point * MOST_FROM + k];
        }
    }

    /** One figure: the places of the points up to the first whose step falls. */
    private static final class Figure {
        final int[] x = new int[ROOM];
        final int[] y = new int[ROOM];
        int made;
        int fallen = NONE;
        private long state;
        /** The place that was found last. */
        private int foundX;
        private int foundY;

        void begin(int start) {
            state = start;
            made = 0;
            fallen = NONE;
        }

        /** Makes the points that are not made yet; the point freed as if its step were FREE. */
        void goOn(Plan plan, int freed) {
            for (int point = made; point < plan.size && fallen == NONE; point++) {
                int kind = point == freed ? FREE : plan.kinds[point];
                if (find(kind, plan.from(point, 0), plan.from(point, 1), plan.from(point, 2),
                        plan.from(point, 3))) {
                    x[point] = foundX;
                    y[point] = foundY;
                    made = point + 1;
                } else {
                    fallen = point;
                }
            }
        }

        /** Finds the place of a step; false if it falls. */
        private boolean find(int kind, int a, int b, int c, int d) {
            switch (kind) {
                case FREE:
                    return findFree();
                case MIDDLE_OF:
                    return found((x[a] + x[b]) * HALF, (y[a] + y[b]) * HALF);
                case FOOT:
                    return findFoot(x[a], y[a], b, c);
                case MEET:
                    return findMeet(a, b, c, d);
                case CENTRE:
                    return findCentre(a, b, c);
                case HEIGHTS:
                    return findCentre(a, b, c)
                            && found(x[a] + x[b] + x[c] - 2 * foundX, y[a] + y[b] + y[c] - 2 * foundY);
                case MIRROR:
                    return findFoot(x[a], y[a], b, c) && found(2 * foundX - x[a], 2 * foundY - y[a]);
                case QUARTER:
                    return found(x[b] - (y[a] - y[b]), y[b] + (x[a] - x[b]));
                case SHIFT:
                    return found(x[a] + x[c] - x[b], y[a] + y[c] - y[b]);
                case ON_LINE:
                    return findAlong(a, b, nextNumber());
                case ON_CIRCLE:
                    return findOnCircle(a, b, nextNumber());
                case OTHER_MEET:
                    return findCentre(a, c, d) && findFoot(foundX, foundY, a, b)
                            && found(2 * foundX - x[a], 2 * foundY - y[a]);
                case THIRD_PART:
                    return found((x[a] + x[b] + x[c]) * THIRD, (y[a] + y[b] + y[c]) * THIRD);
                case TURNED_OUT:
                    return findTurnedOut(a, b, c);
                default:
                    return false;
            }
        }

        private boolean found(long placeX, long placeY) {
            int restX = (int) (placeX % P);
            int restY = (int) (placeY % P);
            foundX = restX < 0 ? restX + P : restX;
            foundY = restY < 0 ? restY + P : restY;
            return true;
        }

        private long nextNumber() {
            state = state * 48271 % 2147483647;
            return state % P;
        }

        private boolean findFree() {
            long drawnX = nextNumber();
            long drawnY = nextNumber();
            return found(drawnX, drawnY);
        }

        /** The place a + t ab, t less than P and more than -P. */
        private boolean findAlong(int a, int b, long t) {
            return found(x[a] + t * (x[b] - x[a]), y[a] + t * (y[b] - y[a]));
        }

        private boolean findFoot(int placeX, int placeY, int b, int c) {
            long length = length(b, c);
            if (length == 0) {
                return false;
            }
            long dot = (long) (placeX - x[b]) * (x[c] - x[b]) + (long) (placeY - y[b]) * (y[c] - y[b]);
            return findAlong(b, c, dot % P * invert(length) % P);
        }

        private boolean findMeet(int a, int b, int c, int d) {
            long cross = cross(a, b, c, d);
            if (cross == 0) {
                return false;
            }
            return findAlong(a, b, cross(a, c, c, d) * invert(cross) % P);
        }

        private boolean findCentre(int a, int b, int c) {
            long area = cross(a, b, a, c);
            if (area == 0) {
                return false;
            }
            long part = invert(2 * area);
            long ab = length(a, b);
            long ac = length(a, c);
            long wayX = (ab * (y[c] - y[a]) - ac * (y[b] - y[a])) % P;
            long wayY = (ac * (x[b] - x[a]) - ab * (x[c] - x[a])) % P;
            return found(x[a] + wayX * part, y[a] + wayY * part);
        }

        private boolean findOnCircle(int a, int b, long t) {
            long square = (1 + t * t) % P;
            if (square == 0) {
                return false;
            }
            long dot = (x[b] - x[a] + t * (y[b] - y[a])) % P;
            long part = dot * invert(square) % P;
            return found(x[b] - 2 * part, y[b] - 2 * part * t);
        }

        private boolean findTurnedOut(int a, int b, int c) {
            long length = length(b, a);
            if (length == 0) {
                return false;
            }
            return findAlong(b, a, length(b, c) * invert(length) % P);
        }

        /** ab x cd; it may be less than 0, but is 0 only if it is 0 modulo P. */
        private long cross(int a, int b, int c, int d) {
            return ((long) (x[b] - x[a]) * (y[d] - y[c]) - (long) (y[b] - y[a]) * (x[d] - x[c])) % P;
        }

        /** ab . cd; it may be less than 0, but is 0 only if it is 0 modulo P. */
        private long dot(int a, int b, int c, int d) {
            return ((long) (x[b] - x[a]) * (x[d] - x[c]) + (long) (y[b] - y[a]) * (y[d] - y[c])) % P;
        }

        long length(int a, int b) {
            long wayX = x[b] - x[a];
            long wayY = y[b] - y[a];
            return (wayX * wayX + wayY * wayY) % P;
        }

        long squaredArea(int a, int b, int c) {
            long area = cross(a, b, a, c);
            return area * area % P;
        }

        /** Whether a fact is true in this figure; of RATIO one with its numbers. */
        boolean shows(int kind, int fact) {
            int a = unpack(fact, 0);
            int b = unpack(fact, 1);
            int c = unpack(fact, 2);
            int d = unpack(fact, 3);
            int e = unpack(fact, 4);
            int f = unpack(fact, 5);
            switch (kind) {
                case SAME:
                    return x[a] == x[b] && y[a] == y[b];
                case LINE:
                    return cross(a, b, a, c) == 0;
                case PARALLEL:
                    return cross(a, b, c, d) == 0;
                case RIGHT:
                    return dot(a, b, c, d) == 0;
                case EQUAL:
                    return length(a, b) == length(c, d);
                case CIRCLE:
                    return showsCircle(a, b, c, d);
                case MIDDLE:
                    return (2 * x[a] - x[b] - x[c]) % P == 0 && (2 * y[a] - y[b] - y[c]) % P == 0;
                case AREAS:
                    return squaredArea(a, b, c) == squaredArea(d, e, f);
                case RATIO:
                    return e * length(a, b) % P == f * length(c, d) % P;
                default:
                    return false;
            }
        }

        /**
         * The document's determinant, with a moved to the place (0, 0): that changes the columns
         * by sums of the others alone, so the determinant stays, and its first row is 0, 0, 0, 1.
         */
        private boolean showsCircle(int a, int b, int c, int d) {
            long determinant = length(a, b) * cross(a, c, a, d) - length(a, c) * cross(a, b, a, d)
                    + length(a, d) * cross(a, b, a, c);
            return determinant % P == 0;
        }
    }

    /** All figures of a plan, and what is true in all of them that stand. */
    private static final class Drawing {
        final Figure[] sheets = new Figure[MOST_FIGURES];
        int standing;
        private int size;
        /** A quotient's divisor is often the last one again, as facts come in order. */
        private long divisor = 1;
        private long inverse = 1;

        Drawing() {
            for (int g = 0; g < MOST_FIGURES; g++) {
                sheets[g] = new Figure();
            }
        }

        void begin(int seed, int figures) {
            size = figures;
            for (int g = 0; g < size; g++) {
                sheets[g].begin(seed + 1000 * g);
            }
        }

        void goOn(Plan plan, int freed) {
            standing = 0;
            for (int g = 0; g < size; g++) {
                sheets[g].goOn(plan, freed);
                if (sheets[g].fallen == NONE) {
                    standing++;
                }
            }
        }

        /** The first figure that stands; null if none does. */
        Figure firstStanding() {
            for (int g = 0; g < size; g++) {
                if (sheets[g].fallen == NONE) {
                    return sheets[g];
                }
            }
            return null;
        }

        /** Whether a fact holds; what RATIO's fact says of its numbers counts for nothing. */
        boolean bears(int kind, int fact) {
            return kind == RATIO ? giveNumbers(fact) != 0 : isShown(kind, fact);
        }

        /** Whether all figures that stand show a fact, and there is one. */
        boolean isShown(int kind, int fact) {
            for (int g = 0; g < size; g++) {
                if (sheets[g].fallen == NONE && !sheets[g].shows(kind, fact)) {
                    return false;
                }
            }
            return standing > 0;
        }

        /**
         * The fact RATIO of these points with its numbers m and n; 0 if it does not hold. All m, n
         * with one quotient are multiples of one pair, as m and n are far less than P: the least n
         * comes with the least m.
         */
        int giveNumbers(int fact) {
            Figure figure = firstWithLength(fact);
            if (figure == null) {
                return standing > 0 ? withNumbers(fact, 1, 2) : 0;
            }
            long ab = figure.length(unpack(fact, 0), unpack(fact, 1));
            long cd = figure.length(unpack(fact, 2), unpack(fact, 3));
            if (ab == 0 || cd == 0) {
                return 0;
            }
            long quotient = divide(cd, ab);
            for (int n = 1; n <= MOST_RATIO_NUMBER; n++) {
                long m = quotient * n % P;
                if (m <= MOST_RATIO_NUMBER && m != n) {
                    int numbered = withNumbers(fact, (int) m, n);
                    return isShown(RATIO, numbered) ? numbered : 0;
                }
            }
            return 0;
        }

        /** The first figure that stands in which not both lengths are 0; null if there is none. */
        private Figure firstWithLength(int fact) {
            for (int g = 0; g < size; g++) {
                Figure figure = sheets[g];
                if (figure.fallen == NONE && (figure.length(unpack(fact, 0), unpack(fact, 1)) != 0
                        || figure.length(unpack(fact, 2), unpack(fact, 3)) != 0)) {
                    return figure;
                }
            }
            return null;
        }

        private static int withNumbers(int fact, int m, int n) {
            int points = fact & (1 << 4 * POINT_BITS) - 1;
            return points | m << 4 * POINT_BITS | n << 5 * POINT_BITS;
        }

        /** value divided by by, which is not 0 modulo P. */
        private long divide(long value, long by) {
            if (by != divisor) {
                divisor = by;
                inverse = invert(by);
            }
            return value * inverse % P;
        }
    }

    /** A list of ints that keeps its array; what has no room in it is left out. */
    private static final class IntList {
        final int[] items;
        int size;

        IntList(int most) {
            items = new int[Math.max(most, 0)];
        }

        boolean has(int i) {
            return i >= 0 && i < size;
        }

        void add(int item) {
            if (size < items.length) {
                items[size] = item;
                size++;
            }
        }

        /** Puts an item where it belongs in a list that rises, unless it is in it. */
        void addRising(int item) {
            int at = 0;
            while (at < size && items[at] < item) {
                at++;
            }
            if (at < size && items[at] == item || size >= items.length) {
                return;
            }
            for (int i = size; i > at; i--) {
                items[i] = items[i - 1];
            }
            items[at] = item;
            size++;
        }
    }

    /** What is found in a drawing: found when it is first asked for, and kept until forgotten. */
    private static final class Findings {
        final Drawing drawing = new Drawing();
        private final IntList[] lists = new IntList[FACT_KINDS];
        private final IntList rows = new IntList(MOST_ROWS);
        private final IntList rings = new IntList(MOST_RINGS);
        /** The least point that each point is SAME as, itself among them. */
        private final int[] leads = new int[ROOM];
        /** The triples whose areas are not all 0, and the square of each in the first figure. */
        private final IntList triples = new IntList(MOST_TRIPLES);
        private final long[] areas = new long[MOST_TRIPLES];
        private int points;
        private int known;

        Findings() {
            for (int kind = 0; kind < FACT_KINDS; kind++) {
                lists[kind] = new IntList(MOST_FACTS[kind]);
            }
        }

        void forget(int size) {
            points = size;
            known = 0;
        }

        private boolean isNew(int bit) {
            boolean before = (known >> bit & 1) == 0;
            known |= 1 << bit;
            return before;
        }

        int countPlaces() {
            findLeads();
            return placesOf((1 << points) - 1);
        }

        /** The facts of a kind that are told, in their order. */
        IntList list(int kind) {
            if (isNew(kind)) {
                findLeads();
                lists[kind].size = 0;
                switch (kind) {
                    case SAME:
                        listPairs();
                        break;
                    case LINE:
                        listTriples();
                        break;
                    case CIRCLE:
                        listFours();
                        break;
                    case MIDDLE:
                        listMiddles();
                        break;
                    case AREAS:
                        listAreas();
                        break;
                    case RATIO:
                        listRatios();
                        break;
                    default:
                        listTwoPairs(kind);
                        break;
                }
            }
            return lists[kind];
        }

        IntList allRows() {
            if (isNew(ROWS_KNOWN)) {
                findLeads();
                rows.size = 0;
                for (int a = 0; a < points; a++) {
                    for (int b = a + 1; b < points; b++) {
                        addRow(a, b);
                    }
                }
            }
            return rows;
        }

        IntList allRings() {
            if (isNew(RINGS_KNOWN)) {
                findLeads();
                rings.size = 0;
                for (int a = 0; a < points; a++) {
                    for (int b = a + 1; b < points; b++) {
                        for (int c = b + 1; c < points; c++) {
                            addRing(a, b, c);
                        }
                    }
                }
            }
            return rings;
        }

        /** A point that is SAME as one of a set is in each LINE, each CIRCLE that the other is in. */
        private void addRow(int a, int b) {
            if (leads[a] == leads[b]) {
                return;
            }
            int set = 1 << a | 1 << b;
            for (int p = 0; p < points; p++) {
                if (drawing.isShown(LINE, pack(a, b, p))) {
                    set |= 1 << p;
                }
            }
            if (placesOf(set) >= 3) {
                rows.addRising(set);
            }
        }

        private void addRing(int a, int b, int c) {
            int corners = 1 << a | 1 << b | 1 << c;
            if (placesOf(corners) < 3 || drawing.isShown(LINE, pack(a, b, c))) {
                return;
            }
            int set = corners;
            for (int p = 0; p < points; p++) {
                if (drawing.isShown(CIRCLE, join(pack(a, b, c), p))) {
                    set |= 1 << p;
                }
            }
            if (placesOf(set) >= 4) {
                rings.addRising(set);
            }
        }

        private void findLeads() {
            if (!isNew(LEADS_KNOWN)) {
                return;
            }
            for (int p = 0; p < points; p++) {
                leads[p] = p;
                for (int q = 0; q < p && leads[p] == p; q++) {
                    if (drawing.isShown(SAME, pack(q, p, 0))) {
                        leads[p] = q;
                    }
                }
            }
        }

        /** How many places the points of a set have. */
        private int placesOf(int set) {
            int leading = 0;
            for (int p = 0; p < points; p++) {
                if ((set >> p & 1) == 1) {
                    leading |= 1 << leads[p];
                }
            }
            return Integer.bitCount(leading);
        }

        /** Whether no two different points of a fact are SAME. */
        private boolean isApart(int kind, int fact) {
            int set = 0;
            int leading = 0;
            for (int k = 0; k < FACT_POINTS[kind]; k++) {
                int p = unpack(fact, k);
                set |= 1 << p;
                leading |= 1 << leads[p];
            }
            return Integer.bitCount(set) == Integer.bitCount(leading);
        }

        /**
         * Puts a fact in its list, if it is told. As -1 is no square modulo P, a length is 0 only
         * between points of one place: where the points are apart, no length is 0 in all figures.
         */
        private void consider(int kind, int fact) {
            if (drawing.isShown(kind, fact) && isApart(kind, fact)) {
                lists[kind].add(fact);
            }
        }

        /** Of SAME all that hold are told. */
        private void listPairs() {
            for (int a = 0; a < points; a++) {
                for (int b = a + 1; b < points; b++) {
                    if (leads[a] == leads[b]) {
                        lists[SAME].add(pack(a, b, 0));
                    }
                }
            }
        }

        private void listTriples() {
            for (int a = 0; a < points; a++) {
                for (int b = a + 1; b < points; b++) {
                    for (int c = b + 1; c < points; c++) {
                        consider(LINE, pack(a, b, c));
                    }
                }
            }
        }

        private void listFours() {
            for (int a = 0; a < points; a++) {
                for (int b = a + 1; b < points; b++) {
                    for (int c = b + 1; c < points; c++) {
                        for (int d = c + 1; d < points; d++) {
                            consider(CIRCLE, join(pack(a, b, c), d));
                        }
                    }
                }
            }
        }

        private void listMiddles() {
            for (int a = 0; a < points; a++) {
                for (int b = 0; b < points; b++) {
                    for (int c = b + 1; c < points; c++) {
                        if (a != b && a != c) {
                            consider(MIDDLE, pack(a, b, c));
                        }
                    }
                }
            }
        }

        private void listTwoPairs(int kind) {
            for (int a = 0; a < points; a++) {
                for (int b = a + 1; b < points; b++) {
                    for (int c = a; c < points; c++) {
                        for (int d = c == a ? b + 1 : c + 1; d < points; d++) {
                            if (kind != PARALLEL || areApartPairs(a, b, c, d)) {
                                consider(kind, join(pack(a, b, c), d));
                            }
                        }
                    }
                }
            }
        }

        private void listRatios() {
            for (int a = 0; a < points; a++) {
                for (int b = a + 1; b < points; b++) {
                    for (int c = a; c < points; c++) {
                        for (int d = c == a ? b + 1 : c + 1; d < points; d++) {
                            int numbered = drawing.giveNumbers(join(pack(a, b, c), d));
                            if (numbered != 0 && isApart(RATIO, numbered)) {
                                lists[RATIO].add(numbered);
                            }
                        }
                    }
                }
            }
        }

        /** Most areas differ in the first figure already: only those that do not are looked at. */
        private void listAreas() {
            Figure first = drawing.firstStanding();
            if (first == null) {
                return;
            }
            findTriples(first);
            for (int i = 0; i < triples.size; i++) {
                for (int j = i + 1; j < triples.size; j++) {
                    if (areas[i] == areas[j]) {
                        consider(AREAS, join(triples.items[i], triples.items[j]));
                    }
                }
            }
        }

        private void findTriples(Figure first) {
            triples.size = 0;
            for (int a = 0; a < points; a++) {
                for (int b = a + 1; b < points; b++) {
                    for (int c = b + 1; c < points; c++) {
                        if (triples.size < MOST_TRIPLES && !drawing.isShown(LINE, pack(a, b, c))) {
                            areas[triples.size] = first.squaredArea(a, b, c);
                            triples.add(pack(a, b, c));
                        }
                    }
                }
            }
        }
    }
}
