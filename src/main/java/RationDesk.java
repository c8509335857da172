/**
 * A solver for conditions over three rational numbers and an unknown function.
 *
 * The closure of what a choice of holding atoms and a choice of equal numbers
 * allow is a convex body inside the box, the hull of its corners. A strict
 * condition (above, apart) can be met on the body, or on a face of it, exactly
 * if some corner there meets it, and all of them can be met at once if each can
 * be met by some corner: a mix of the corners then meets them all. So every
 * question is answered from the corners alone, in whole numbers.
 */
public final class RationDesk {
    public static final int REFUSED = -1, FULL = -2;

    private static final int ATOMS = 5;
    private static final int LITERALS = 2 * ATOMS;
    private static final int SETS = 1 << ATOMS;
    private static final int NUMBERS = 3;
    private static final int MAX_FACTOR = 9;
    private static final int MAX_LIMIT = 99;
    private static final int EDGE = 20;
    private static final int MAX_CLAUSES = 8;
    private static final int CLAUSE_SIZE = 3;
    private static final int MAX_LEVEL = 4;
    private static final int ABSENT = -1;

    /** Planes: first one for each atom, then one for each pair of numbers that may be equal. */
    private static final int PAIRS = 3;
    private static final int TRACKED = ATOMS + PAIRS;
    private static final int[] PAIR_LEFT = {0, 0, 1};
    private static final int[] PAIR_RIGHT = {1, 2, 2};

    /** The ways in which the three numbers can be equal: the group of each number. */
    private static final int SPLITS = 5;
    private static final int[] GROUPS = {0, 1, 2, 0, 0, 1, 0, 1, 0, 0, 1, 1, 0, 0, 0};

    /** Where in a set of sides the bits of the tracked planes start, for each kind of side. */
    private static final int AT_MOST = 0;
    private static final int AT_LEAST = TRACKED;
    private static final int ABOVE = 2 * TRACKED;
    private static final int APART = 3 * TRACKED;

    private final Atoms atoms = new Atoms();
    private final ClauseStack clauses = new ClauseStack();
    private final Corners corners = new Corners();
    private final Cells cells = new Cells();
    private final Peak peak = new Peak();
    private boolean stale = true;
    private long topNumerator = 0;
    private long topDenominator = 0;

    public RationDesk() {
    }

    public boolean linear(int k, int a, int b, int c, int d, boolean equal) {
        if (!isAtom(k) || !areFactors(a, b, c) || !isLimit(d)) {
            return false;
        }
        atoms.defineLinear(k, a, b, c, d, equal);
        stale = true;
        return true;
    }

    public boolean fact(int k, int i, int j) {
        if (!isAtom(k) || !isNumber(i) || !isNumber(j)) {
            return false;
        }
        atoms.defineFact(k, i, j);
        stale = true;
        return true;
    }

    public int clause(int p, int q, int r) {
        boolean gap = q == ABSENT && r != ABSENT;
        if (gap || !isDefined(p) || !isDefinedOrAbsent(q) || !isDefinedOrAbsent(r)) {
            return REFUSED;
        }
        return clauses.add(p, q, r) ? clauses.size() : FULL;
    }

    public int push() {
        return clauses.raise() ? clauses.level() : FULL;
    }

    public int pop() {
        return clauses.lower() ? clauses.level() : REFUSED;
    }

    public int worlds() {
        refresh();
        int count = 0;
        for (int set = 0; set < SETS; set++) {
            if (isWorld(set)) {
                count++;
            }
        }
        return count;
    }

    public boolean world(int atoms) {
        refresh();
        return isWorld(atoms & this.atoms.defined());
    }

    public int holds(int literal) {
        if (!isDefined(literal)) {
            return REFUSED;
        }
        refresh();
        boolean somewhere = false;
        boolean everywhere = true;
        for (int set = 0; set < SETS; set++) {
            if (isWorld(set)) {
                boolean here = holdsIn(set, literal);
                somewhere = somewhere || here;
                everywhere = everywhere && here;
            }
        }
        if (!somewhere) {
            return 0;
        }
        return everywhere ? 2 : 1;
    }

    public int most(int a, int b, int c) {
        if (!areFactors(a, b, c)) {
            return REFUSED;
        }
        refresh();
        climb(a, b, c);
        topNumerator = peak.reducedOver();
        topDenominator = peak.reducedUnder();
        if (!peak.isFound()) {
            return 0;
        }
        return peak.isReached() ? 2 : 1;
    }

    public long top(int what) {
        if (what == 0) {
            return topNumerator;
        }
        return what == 1 ? topDenominator : 0;
    }

    public boolean bounded(int a, int b, int c, int d) {
        if (!areFactors(a, b, c) || !isLimit(d)) {
            return false;
        }
        refresh();
        climb(a, b, c);
        return peak.isAtMost(d);
    }

    private static boolean isWithin(int value, int bound) {
        return value >= -bound && value <= bound;
    }

    private static boolean areFactors(int a, int b, int c) {
        return isWithin(a, MAX_FACTOR) && isWithin(b, MAX_FACTOR) && isWithin(c, MAX_FACTOR);
    }

    private static boolean isLimit(int d) {
        return isWithin(d, MAX_LIMIT);
    }

    private static boolean isAtom(int k) {
        return k >= 0 && k < ATOMS;
    }

    private static boolean isNumber(int i) {
        return i >= 0 && i < NUMBERS;
    }

    private boolean isDefined(int literal) {
        return literal >= 0 && literal < LITERALS && (atoms.defined() >> (literal >> 1) & 1) == 1;
    }

    private boolean isDefinedOrAbsent(int literal) {
        return literal == ABSENT || isDefined(literal);
    }

    /** For literals 0 .. 9 alone. */
    private static boolean holdsIn(int set, int literal) {
        boolean atomHolds = (set >> (literal >> 1) & 1) == 1;
        return atomHolds == ((literal & 1) == 0);
    }

    private static int side(int kind, int plane) {
        return 1 << (kind + plane);
    }

    private static int onPlane(int plane) {
        return (1 << (AT_MOST + plane)) | (1 << (AT_LEAST + plane));
    }

    /** Whether two numbers, each 0 .. 2, are in one group of a split 0 .. 4. */
    private static boolean areEqual(int split, int i, int j) {
        int left = split * NUMBERS + i;
        int right = split * NUMBERS + j;
        if (left < 0 || left >= GROUPS.length || right < 0 || right >= GROUPS.length) {
            return false;
        }
        return GROUPS[left] == GROUPS[right];
    }

    /** Clauses do not enter here: that a set of atoms has a solution depends on the atoms alone. */
    private void refresh() {
        if (stale) {
            corners.rebuild(atoms);
            cells.rebuild(atoms, corners);
            stale = false;
        }
    }

    private boolean isWorld(int set) {
        return (set & ~atoms.defined()) == 0 && cells.isOpenSomewhere(set) && clauses.areSatisfiedBy(set);
    }

    private void climb(int a, int b, int c) {
        peak.start(a, b, c);
        for (int set = 0; set < SETS; set++) {
            if (isWorld(set)) {
                climbWorld(set);
            }
        }
    }

    private void climbWorld(int set) {
        for (int split = 0; split < SPLITS; split++) {
            int cell = Cells.cellOf(set, split);
            if (cells.isOpen(cell)) {
                peak.include(corners, cells.neededIn(cell), cells.soughtIn(cell));
            }
        }
    }

    /** What the atoms say. */
    private static final class Atoms {
        /** The kinds; 0 is of an atom that is not defined. */
        private static final int UP_TO = 1, EXACT = 2, FACT = 3;

        private final int[] kind = new int[ATOMS];
        private final int[] a = new int[ATOMS];
        private final int[] b = new int[ATOMS];
        private final int[] c = new int[ATOMS];
        private final int[] d = new int[ATOMS];
        private final int[] argument = new int[ATOMS];
        private final int[] value = new int[ATOMS];
        private int defined = 0;

        int defined() {
            return defined;
        }

        void defineLinear(int k, int a, int b, int c, int d, boolean equal) {
            if (!isAtom(k)) {
                return;
            }
            setPlane(k, a, b, c, d);
            kind[k] = equal ? EXACT : UP_TO;
            defined |= 1 << k;
        }

        void defineFact(int k, int i, int j) {
            if (!isAtom(k)) {
                return;
            }
            // A plane without a direction makes no corners.
            setPlane(k, 0, 0, 0, 0);
            kind[k] = FACT;
            argument[k] = i;
            value[k] = j;
            defined |= 1 << k;
        }

        private void setPlane(int k, int a, int b, int c, int d) {
            if (isAtom(k)) {
                this.a[k] = a;
                this.b[k] = b;
                this.c[k] = c;
                this.d[k] = d;
            }
        }

        /** The sides on which every solution lies, in the closure. */
        int sidesNeeded(int set) {
            int needed = 0;
            for (int k = 0; k < ATOMS; k++) {
                boolean holding = (set >> k & 1) == 1;
                if (kind[k] == UP_TO) {
                    needed |= side(holding ? AT_MOST : AT_LEAST, k);
                } else if (kind[k] == EXACT && holding) {
                    needed |= onPlane(k);
                }
            }
            return needed;
        }

        /** The sides on which the closure has to have a point each. */
        int sidesSought(int set) {
            int sought = 0;
            for (int k = 0; k < ATOMS; k++) {
                boolean holding = (set >> k & 1) == 1;
                if (kind[k] == UP_TO && !holding) {
                    sought |= side(ABOVE, k);
                } else if (kind[k] == EXACT && !holding) {
                    sought |= side(APART, k);
                }
            }
            return sought;
        }

        /** Whether some function has just the facts of the set, if the numbers are equal as the split says. */
        boolean hasFunction(int set, int split) {
            for (int k = 0; k < ATOMS; k++) {
                for (int m = 0; m < k; m++) {
                    if (contradict(k, m, set, split)) {
                        return false;
                    }
                }
            }
            return true;
        }

        private boolean contradict(int k, int m, int set, int split) {
            if (!isAtom(k) || !isAtom(m) || kind[k] != FACT || kind[m] != FACT) {
                return false;
            }
            boolean first = (set >> k & 1) == 1;
            boolean second = (set >> m & 1) == 1;
            // Two facts that fail can't contradict: the function may take a value that no number has.
            if (!first && !second || !areEqual(split, argument[k], argument[m])) {
                return false;
            }
            return areEqual(split, value[k], value[m]) != (first && second);
        }
    }

    /** The clauses and how many there were at each push. */
    private static final class ClauseStack {
        private final int[] literals = new int[MAX_CLAUSES * CLAUSE_SIZE];
        private final int[] marks = new int[MAX_LEVEL];
        private int size = 0;
        private int level = 0;

        int size() {
            return size;
        }

        int level() {
            return level;
        }

        boolean add(int p, int q, int r) {
            if (size < 0 || size >= MAX_CLAUSES) {
                return false;
            }
            int start = size * CLAUSE_SIZE;
            literals[start] = p;
            literals[start + 1] = q;
            literals[start + 2] = r;
            size++;
            return true;
        }

        boolean raise() {
            if (level < 0 || level >= MAX_LEVEL) {
                return false;
            }
            marks[level] = size;
            level++;
            return true;
        }

        boolean lower() {
            if (level <= 0 || level > MAX_LEVEL) {
                return false;
            }
            level--;
            size = marks[level];
            return true;
        }

        boolean areSatisfiedBy(int set) {
            for (int n = 0; n < size && n < MAX_CLAUSES; n++) {
                if (!isSatisfiedBy(set, n * CLAUSE_SIZE)) {
                    return false;
                }
            }
            return true;
        }

        private boolean isSatisfiedBy(int set, int start) {
            if (start < 0 || start > literals.length - CLAUSE_SIZE) {
                return false;
            }
            for (int n = start; n < start + CLAUSE_SIZE; n++) {
                if (literals[n] != ABSENT && holdsIn(set, literals[n])) {
                    return true;
                }
            }
            return false;
        }
    }

    /** The points of the box in which three planes meet, and on which side of each tracked plane they lie. */
    private static final class Corners {
        private static final int PLANES = TRACKED + 2 * NUMBERS;
        /** As many as there are ways to take three of fourteen planes. */
        private static final int CAPACITY = 364;

        private final int[] a = new int[PLANES];
        private final int[] b = new int[PLANES];
        private final int[] c = new int[PLANES];
        private final int[] d = new int[PLANES];
        private final int[] x = new int[CAPACITY];
        private final int[] y = new int[CAPACITY];
        private final int[] z = new int[CAPACITY];
        private final int[] divisor = new int[CAPACITY];
        private final int[] sides = new int[CAPACITY];
        private int count = 0;

        Corners() {
            for (int t = 0; t < PAIRS; t++) {
                addTo(ATOMS + t, PAIR_LEFT[t], 1);
                addTo(ATOMS + t, PAIR_RIGHT[t], -1);
            }
            for (int i = 0; i < NUMBERS; i++) {
                addTo(TRACKED + 2 * i, i, 1);
                addTo(TRACKED + 2 * i + 1, i, 1);
                d[TRACKED + 2 * i] = EDGE;
                d[TRACKED + 2 * i + 1] = -EDGE;
            }
        }

        private void addTo(int plane, int number, int factor) {
            if (plane < 0 || plane >= PLANES) {
                return;
            }
            if (number == 0) {
                a[plane] += factor;
            } else if (number == 1) {
                b[plane] += factor;
            } else {
                c[plane] += factor;
            }
        }

        int count() {
            return count;
        }

        int sidesOf(int corner) {
            return corner >= 0 && corner < CAPACITY ? sides[corner] : 0;
        }

        int divisorOf(int corner) {
            return corner >= 0 && corner < CAPACITY ? divisor[corner] : 1;
        }

        /** a x0 + b x1 + c x2 at a corner, times the corner's divisor. */
        long sumAt(int corner, int a, int b, int c) {
            if (corner < 0 || corner >= CAPACITY) {
                return 0;
            }
            return (long) a * x[corner] + (long) b * y[corner] + (long) c * z[corner];
        }

        /** Whether there are corners on all the needed sides that between them reach each side sought. */
        boolean havePoint(int needed, int sought) {
            int missing = sought;
            for (int n = 0; n < count && n < CAPACITY; n++) {
                if ((sides[n] & needed) == needed) {
                    missing &= ~sides[n];
                    if (missing == 0) {
                        return true;
                    }
                }
            }
            return false;
        }

        void rebuild(Atoms atoms) {
            for (int k = 0; k < ATOMS; k++) {
                a[k] = atoms.a[k];
                b[k] = atoms.b[k];
                c[k] = atoms.c[k];
                d[k] = atoms.d[k];
            }
            count = 0;
            for (int p = 0; p < PLANES; p++) {
                for (int q = p + 1; q < PLANES; q++) {
                    for (int r = q + 1; r < PLANES; r++) {
                        meet(p, q, r);
                    }
                }
            }
        }

        private void meet(int p, int q, int r) {
            int whole = determinant(a, b, c, p, q, r);
            if (whole == 0) {
                return;
            }
            int sign = whole < 0 ? -1 : 1;
            int under = sign * whole;
            int x0 = sign * determinant(d, b, c, p, q, r);
            int x1 = sign * determinant(a, d, c, p, q, r);
            int x2 = sign * determinant(a, b, d, p, q, r);
            int edge = EDGE * under;
            if (isWithin(x0, edge) && isWithin(x1, edge) && isWithin(x2, edge)) {
                keep(x0, x1, x2, under);
            }
        }

        private static int determinant(int[] u, int[] v, int[] w, int p, int q, int r) {
            if (!isPlane(p) || !isPlane(q) || !isPlane(r)) {
                return 0;
            }
            return u[p] * (v[q] * w[r] - v[r] * w[q])
                - v[p] * (u[q] * w[r] - u[r] * w[q])
                + w[p] * (u[q] * v[r] - u[r] * v[q]);
        }

        private static boolean isPlane(int plane) {
            return plane >= 0 && plane < PLANES;
        }

        private void keep(int x0, int x1, int x2, int under) {
            if (count < 0 || count >= CAPACITY) {
                return;
            }
            x[count] = x0;
            y[count] = x1;
            z[count] = x2;
            divisor[count] = under;
            sides[count] = findSides(x0, x1, x2, under);
            count++;
        }

        private int findSides(int x0, int x1, int x2, int under) {
            int found = 0;
            for (int t = 0; t < TRACKED; t++) {
                int over = a[t] * x0 + b[t] * x1 + c[t] * x2 - d[t] * under;
                if (over == 0) {
                    found |= onPlane(t);
                } else if (over < 0) {
                    found |= side(AT_MOST, t) | side(APART, t);
                } else {
                    found |= side(AT_LEAST, t) | side(ABOVE, t) | side(APART, t);
                }
            }
            return found;
        }
    }

    /** For each set of atoms and each split: whether there is a solution with just these. */
    private static final class Cells {
        private final boolean[] open = new boolean[SETS * SPLITS];
        private final int[] needed = new int[SETS * SPLITS];
        private final int[] sought = new int[SETS * SPLITS];

        void rebuild(Atoms atoms, Corners corners) {
            for (int set = 0; set < SETS; set++) {
                for (int split = 0; split < SPLITS; split++) {
                    rebuildCell(set, split, atoms, corners);
                }
            }
        }

        private void rebuildCell(int set, int split, Atoms atoms, Corners corners) {
            int cell = cellOf(set, split);
            if (isCell(cell)) {
                needed[cell] = atoms.sidesNeeded(set) | pairsNeeded(split);
                sought[cell] = atoms.sidesSought(set) | pairsSought(split);
                open[cell] = atoms.hasFunction(set, split)
                    && corners.havePoint(needed[cell], sought[cell]);
            }
        }

        static int cellOf(int set, int split) {
            return set * SPLITS + split;
        }

        private static boolean isCell(int cell) {
            return cell >= 0 && cell < SETS * SPLITS;
        }

        boolean isOpen(int cell) {
            return isCell(cell) && open[cell];
        }

        int neededIn(int cell) {
            return isCell(cell) ? needed[cell] : 0;
        }

        int soughtIn(int cell) {
            return isCell(cell) ? sought[cell] : 0;
        }

        boolean isOpenSomewhere(int set) {
            for (int split = 0; split < SPLITS; split++) {
                if (isOpen(cellOf(set, split))) {
                    return true;
                }
            }
            return false;
        }

        private static int pairsNeeded(int split) {
            int found = 0;
            for (int t = 0; t < PAIRS; t++) {
                if (areEqual(split, PAIR_LEFT[t], PAIR_RIGHT[t])) {
                    found |= onPlane(ATOMS + t);
                }
            }
            return found;
        }

        private static int pairsSought(int split) {
            int found = 0;
            for (int t = 0; t < PAIRS; t++) {
                if (!areEqual(split, PAIR_LEFT[t], PAIR_RIGHT[t])) {
                    found |= side(APART, ATOMS + t);
                }
            }
            return found;
        }
    }

    /** The least upper bound of a sum over the cells shown to it, as a fraction. */
    private static final class Peak {
        /** Far more than the steps of Euclid's algorithm on numbers of this size. */
        private static final int MAX_STEPS = 1000;

        private int a = 0;
        private int b = 0;
        private int c = 0;
        private long over = 0;
        private long under = 0;
        private boolean reached = false;
        private long cellOver = 0;
        private long cellUnder = 0;
        private int cellSides = 0;

        void start(int a, int b, int c) {
            this.a = a;
            this.b = b;
            this.c = c;
            over = 0;
            under = 0;
            reached = false;
        }

        boolean isFound() {
            return under > 0;
        }

        boolean isReached() {
            return reached;
        }

        boolean isAtMost(int d) {
            return over <= d * under;
        }

        void include(Corners corners, int needed, int sought) {
            climbCell(corners, needed);
            if (cellUnder == 0) {
                return;
            }
            // The sum is as high as here on one face alone: the bound is reached if a solution lies on it.
            boolean reachedHere = (cellSides & sought) == sought;
            long order = under == 0 ? 1 : compare(cellOver, cellUnder, over, under);
            if (order > 0) {
                over = cellOver;
                under = cellUnder;
                reached = reachedHere;
            } else if (order == 0) {
                reached = reached || reachedHere;
            }
        }

        private void climbCell(Corners corners, int needed) {
            cellOver = 0;
            cellUnder = 0;
            cellSides = 0;
            for (int n = 0; n < corners.count(); n++) {
                int sides = corners.sidesOf(n);
                if ((sides & needed) == needed) {
                    climbCorner(corners.sumAt(n, a, b, c), corners.divisorOf(n), sides);
                }
            }
        }

        private void climbCorner(long sum, long divisor, int sides) {
            long order = cellUnder == 0 ? 1 : compare(sum, divisor, cellOver, cellUnder);
            if (order > 0) {
                cellOver = sum;
                cellUnder = divisor;
                cellSides = sides;
            } else if (order == 0) {
                cellSides |= sides;
            }
        }

        /** Above 0 if the first fraction is the greater; the numbers are far too small to overflow. */
        private static long compare(long over1, long under1, long over2, long under2) {
            return over1 * under2 - over2 * under1;
        }

        long reducedOver() {
            long divisor = commonDivisor(over, under);
            return divisor > 0 ? over / divisor : 0;
        }

        long reducedUnder() {
            long divisor = commonDivisor(over, under);
            return divisor > 0 ? under / divisor : 0;
        }

        private static long commonDivisor(long first, long second) {
            long high = Math.abs(first);
            long low = second;
            for (int step = 0; step < MAX_STEPS && low > 0; step++) {
                long rest = high % low;
                high = low;
                low = rest;
            }
            return high;
        }
    }
}
