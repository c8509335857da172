import java.math.BigInteger;
import java.util.ArrayList;
import java.util.HashMap;
import java.util.List;
import java.util.Map;

/**
 * Compares long mixed runs with a second solver that works in another way: it cuts the box into convex
 * pieces by order and sign, and eliminates the numbers one by one (Fourier and Motzkin).
 */
public final class OracleTest {
    /** An object gets three calls a step, and at most 512 in all. */
    private static final int STEPS = 170;
    private static final int[] FAR = {
        Integer.MIN_VALUE, Integer.MIN_VALUE + 1, -65536, -256, -100, -32, 32, 64, 100, 256, 65536, Integer.MAX_VALUE,
    };
    private static long state = 1;

    private static int pick(int low, int high) {
        state = state * 6364136223846793005L + 1442695040888963407L;
        return low + (int) Long.remainderUnsigned(state >>> 33, high - low + 1L);
    }

    /** a x0 + b x1 + c x2 + t s <= d, or < d; s is the sum that is looked at. */
    private static final class Row {
        final long[] f;
        final long d;
        final boolean strict;

        Row(long[] f, long d, boolean strict) {
            long g = Math.abs(d);
            for (long v : f) {
                g = BigInteger.valueOf(g).gcd(BigInteger.valueOf(v)).longValueExact();
            }
            this.f = f.clone();
            if (g > 1) {
                for (int i = 0; i < f.length; i++) {
                    this.f[i] /= g;
                }
                d /= g;
            }
            this.d = d;
            this.strict = strict;
        }
    }

    private static Row row(long a, long b, long c, long s, long d, boolean strict) {
        return new Row(new long[] {a, b, c, s}, d, strict);
    }

    private static List<Row> eliminate(List<Row> rows, int v) {
        List<Row> out = new ArrayList<>();
        for (Row r : rows) {
            if (r.f[v] == 0) {
                out.add(r);
            }
        }
        for (Row up : rows) {
            for (Row low : rows) {
                if (up.f[v] > 0 && low.f[v] < 0) {
                    long[] f = new long[4];
                    for (int i = 0; i < 4; i++) {
                        f[i] = Math.addExact(Math.multiplyExact(up.f[i], -low.f[v]), Math.multiplyExact(low.f[i], up.f[v]));
                    }
                    long d = Math.addExact(Math.multiplyExact(up.d, -low.f[v]), Math.multiplyExact(low.d, up.f[v]));
                    out.add(new Row(f, d, up.strict || low.strict));
                }
            }
        }
        return prune(out);
    }

    /** Of rows that look the same way, only the hardest is kept. */
    private static List<Row> prune(List<Row> rows) {
        Map<String, Row> best = new HashMap<>();
        for (Row r : rows) {
            long g = 0;
            for (long v : r.f) {
                g = BigInteger.valueOf(g).gcd(BigInteger.valueOf(v)).longValueExact();
            }
            StringBuilder key = new StringBuilder();
            for (long v : r.f) {
                key.append(g == 0 ? 0 : v / g).append(',');
            }
            if (g == 0) {
                key.append(r.d).append(r.strict);
                best.put(key.toString(), r);
                continue;
            }
            Row old = best.get(key.toString());
            if (old == null) {
                best.put(key.toString(), r);
                continue;
            }
            long oldG = 0;
            for (long v : old.f) {
                oldG = BigInteger.valueOf(oldG).gcd(BigInteger.valueOf(v)).longValueExact();
            }
            int order = Long.compare(Math.multiplyExact(r.d, oldG), Math.multiplyExact(old.d, g));
            if (order < 0 || order == 0 && r.strict) {
                best.put(key.toString(), r);
            }
        }
        return new ArrayList<>(best.values());
    }

    /** The range of the sum over a piece: the upper end as a fraction, and whether it is in; null if it is empty. */
    private static final class Span {
        long over;
        long under;
        boolean in;
    }

    private static Span span(List<Row> rows) {
        List<Row> left = rows;
        for (int v = 0; v < 3; v++) {
            left = eliminate(left, v);
        }
        long ho = 0, hu = 0, lo = 0, lu = 0;
        boolean hs = false, ls = false;
        for (Row r : left) {
            long f = r.f[3];
            if (f == 0) {
                if (r.d < 0 || r.d == 0 && r.strict) {
                    return null;
                }
            } else if (f > 0) {
                int order = hu == 0 ? -1 : Long.compare(Math.multiplyExact(r.d, hu), Math.multiplyExact(ho, f));
                if (order < 0) {
                    ho = r.d;
                    hu = f;
                    hs = r.strict;
                } else if (order == 0) {
                    hs |= r.strict;
                }
            } else {
                int order = lu == 0 ? 1 : Long.compare(Math.multiplyExact(-r.d, lu), Math.multiplyExact(lo, -f));
                if (order > 0) {
                    lo = -r.d;
                    lu = -f;
                    ls = r.strict;
                } else if (order == 0) {
                    ls |= r.strict;
                }
            }
        }
        int order = Long.compare(Math.multiplyExact(lo, hu), Math.multiplyExact(ho, lu));
        if (order > 0 || order == 0 && (hs || ls)) {
            return null;
        }
        Span s = new Span();
        s.over = ho;
        s.under = hu;
        s.in = !hs;
        return s;
    }

    /** The second solver's state. */
    private final int[][] atom = new int[5][];
    private final List<int[]> clauses = new ArrayList<>();
    private final List<Integer> marks = new ArrayList<>();
    private long topOver = 0;
    private long topUnder = 0;

    private int defined() {
        int set = 0;
        for (int k = 0; k < 5; k++) {
            if (atom[k] != null) {
                set |= 1 << k;
            }
        }
        return set;
    }

    private static boolean holdsIn(int set, int literal) {
        return (set >> literal / 2 & 1) != literal % 2;
    }

    private boolean clausesHold(int set) {
        for (int[] c : clauses) {
            boolean any = false;
            for (int l : c) {
                any |= l >= 0 && holdsIn(set, l);
            }
            if (!any) {
                return false;
            }
        }
        return true;
    }

    /** The weak orders of three numbers, as ranks. */
    private static List<int[]> orders() {
        List<int[]> out = new ArrayList<>();
        for (int n = 0; n < 27; n++) {
            int[] rank = {n / 9, n / 3 % 3, n % 3};
            int used = 1 << rank[0] | 1 << rank[1] | 1 << rank[2];
            if (used == 1 || used == 3 || used == 7) {
                out.add(rank);
            }
        }
        return out;
    }

    /** Tries each way to choose f of each rank: one of the ranks, or something else. */
    private boolean someFunction(int set, int[] rank) {
        for (int n = 0; n < 64; n++) {
            int[] f = {n / 16, n / 4 % 4, n % 4};
            boolean fits = true;
            for (int k = 0; k < 5; k++) {
                if (atom[k] != null && atom[k][0] == 2) {
                    boolean is = f[rank[atom[k][1]]] == rank[atom[k][2]];
                    fits &= is == ((set >> k & 1) == 1);
                }
            }
            if (fits) {
                return true;
            }
        }
        return false;
    }

    private Span join(Span x, Span y) {
        if (x == null || y == null) {
            return x == null ? y : x;
        }
        int order = Long.compare(Math.multiplyExact(x.over, y.under), Math.multiplyExact(y.over, x.under));
        if (order == 0) {
            x.in |= y.in;
            return x;
        }
        return order > 0 ? x : y;
    }

    private Span pieces(List<Row> rows, int set, int k) {
        if (k == 5) {
            return span(rows);
        }
        if (atom[k] == null || atom[k][0] == 2) {
            return pieces(rows, set, k + 1);
        }
        int[] t = atom[k];
        boolean on = (set >> k & 1) == 1;
        Row atMost = row(t[1], t[2], t[3], 0, t[4], false);
        Row atLeast = row(-t[1], -t[2], -t[3], 0, -t[4], false);
        Row below = row(t[1], t[2], t[3], 0, t[4], true);
        Row above = row(-t[1], -t[2], -t[3], 0, -t[4], true);
        List<Row> more = new ArrayList<>(rows);
        if (t[0] == 0) {
            more.add(on ? atMost : above);
            return pieces(more, set, k + 1);
        }
        if (on) {
            more.add(atMost);
            more.add(atLeast);
            return pieces(more, set, k + 1);
        }
        List<Row> other = new ArrayList<>(rows);
        more.add(above);
        other.add(below);
        return join(pieces(more, set, k + 1), pieces(other, set, k + 1));
    }

    private Span spanOf(int set, int a, int b, int c) {
        boolean facts = false;
        for (int k = 0; k < 5; k++) {
            facts |= atom[k] != null && atom[k][0] == 2;
        }
        Span all = null;
        for (int[] rank : orders()) {
            if (facts && !someFunction(set, rank)) {
                continue;
            }
            List<Row> rows = new ArrayList<>();
            rows.add(row(a, b, c, -1, 0, false));
            rows.add(row(-a, -b, -c, 1, 0, false));
            rows.add(row(0, 0, 0, 1, 540, false));
            rows.add(row(0, 0, 0, -1, 540, false));
            for (int i = 0; i < 3; i++) {
                long[] e = new long[3];
                e[i] = 1;
                rows.add(row(e[0], e[1], e[2], 0, 20, false));
                rows.add(row(-e[0], -e[1], -e[2], 0, 20, false));
                for (int j = 0; j < 3 && facts; j++) {
                    if (i != j && rank[i] <= rank[j]) {
                        long[] g = new long[3];
                        g[i] = 1;
                        g[j] = -1;
                        rows.add(row(g[0], g[1], g[2], 0, 0, rank[i] < rank[j]));
                    }
                }
            }
            all = join(all, pieces(rows, set, 0));
            if (!facts) {
                break;
            }
        }
        return all;
    }

    private final Map<Integer, Boolean> known = new HashMap<>();

    private boolean isWorld(int set) {
        if ((set & ~defined()) != 0 || !clausesHold(set)) {
            return false;
        }
        return known.computeIfAbsent(set, s -> spanOf(s, 0, 0, 0) != null);
    }

    private Span spanOfAll(int a, int b, int c) {
        Span all = null;
        for (int set = 0; set < 32; set++) {
            if (isWorld(set)) {
                all = join(all, spanOf(set, a, b, c));
            }
        }
        return all;
    }

    private int worlds() {
        int n = 0;
        for (int set = 0; set < 32; set++) {
            n += isWorld(set) ? 1 : 0;
        }
        return n;
    }

    private int holds(int l) {
        if (l < 0 || l > 9 || (defined() >> l / 2 & 1) == 0) {
            return -1;
        }
        int n = 0;
        for (int set = 0; set < 32; set++) {
            n += isWorld(set) && holdsIn(set, l) ? 1 : 0;
        }
        return n == 0 ? 0 : n == worlds() ? 2 : 1;
    }

    private int most(int a, int b, int c) {
        if (!areFactors(a, b, c)) {
            return -1;
        }
        Span s = spanOfAll(a, b, c);
        topOver = 0;
        topUnder = 0;
        if (s == null) {
            return 0;
        }
        long g = BigInteger.valueOf(s.over).gcd(BigInteger.valueOf(s.under)).longValueExact();
        topOver = s.over / g;
        topUnder = s.under / g;
        return s.in ? 2 : 1;
    }

    private boolean bounded(int a, int b, int c, int d) {
        if (!areFactors(a, b, c) || !isIn(d, -99, 99)) {
            return false;
        }
        Span s = spanOfAll(a, b, c);
        return s == null || s.over <= d * s.under;
    }

    private int clause(int p, int q, int r) {
        boolean odd = p < 0 || q == -1 && r != -1;
        for (int l : new int[] {p, q, r}) {
            odd |= l != -1 && (l < 0 || l > 9 || atom[l / 2] == null);
        }
        if (odd) {
            return -1;
        }
        if (clauses.size() == 8) {
            return -2;
        }
        clauses.add(new int[] {p, q, r});
        return clauses.size();
    }

    private int push() {
        if (marks.size() == 4) {
            return -2;
        }
        marks.add(clauses.size());
        return marks.size();
    }

    private int pop() {
        if (marks.isEmpty()) {
            return -1;
        }
        int mark = marks.remove(marks.size() - 1);
        while (clauses.size() > mark) {
            clauses.remove(clauses.size() - 1);
        }
        return marks.size();
    }

    private final StringBuilder story = new StringBuilder();

    private void due(String call, long got, long want) {
        story.append(call).append(" = ").append(want).append('\n');
        if (got != want) {
            Report.wrong("a run that ends with a wrong answer\n" + story + "^ answered " + got);
        }
    }

    private static long num(boolean b) {
        return b ? 1 : 0;
    }

    private static boolean isIn(int v, int low, int high) {
        return v >= low && v <= high;
    }

    private static boolean areFactors(int a, int b, int c) {
        return isIn(a, -9, 9) && isIn(b, -9, 9) && isIn(c, -9, 9);
    }

    private boolean linear(int k, int a, int b, int c, int d, boolean equal) {
        if (!isIn(k, 0, 4) || !areFactors(a, b, c) || !isIn(d, -99, 99)) {
            return false;
        }
        atom[k] = new int[] {equal ? 1 : 0, a, b, c, d};
        known.clear();
        return true;
    }

    private boolean fact(int k, int i, int j) {
        if (!isIn(k, 0, 4) || !isIn(i, 0, 2) || !isIn(j, 0, 2)) {
            return false;
        }
        atom[k] = new int[] {2, i, j};
        known.clear();
        return true;
    }

    /** A number within the bounds, and now and then one just beyond its range or far away. */
    private static int near(int low, int high, int below, int above) {
        int odd = pick(0, 160);
        if (odd < 2) {
            return odd == 0 ? below : above;
        }
        return odd == 2 ? FAR[pick(0, FAR.length - 1)] : pick(low, high);
    }

    private static int factor(int size) {
        return near(-size, size, -10, 10);
    }

    private static int limit(int size) {
        return near(-size, size, -100, 100);
    }

    private static int literal() {
        return pick(0, 25) == 0 ? near(-2, 11, -1, 10) : pick(0, 9);
    }

    /** A limit for bounded: at or just beside the bound, where there is one, or any other. */
    private int limitAt(int a, int b, int c) {
        Span s = pick(0, 1) == 0 || !areFactors(a, b, c) ? null : spanOfAll(a, b, c);
        return s == null ? limit(99) : (int) Math.floorDiv(s.over, s.under) + pick(-1, 1);
    }

    private void step(RationDesk x, int factors, int limits, int factShare) {
        int what = pick(0, 99);
        int a = factor(factors), b = factor(factors), c = factor(factors);
        if (what < 14) {
            int k = near(0, 4, -1, 5);
            if (pick(0, 99) < factShare) {
                int i = near(0, 2, -1, 3), j = near(0, 2, -1, 3);
                due("fact " + k + " " + i + " " + j, num(x.fact(k, i, j)), num(fact(k, i, j)));
            } else {
                int d = limit(limits);
                boolean e = pick(0, 2) == 0;
                due("linear " + k + " " + a + " " + b + " " + c + " " + d + " " + e,
                    num(x.linear(k, a, b, c, d, e)), num(linear(k, a, b, c, d, e)));
            }
        } else if (what < 34) {
            int p = literal();
            int q = pick(0, 2) == 0 ? -1 : literal();
            int r = pick(0, 2) == 0 ? -1 : literal();
            due("clause " + p + " " + q + " " + r, x.clause(p, q, r), clause(p, q, r));
        } else if (what < 44) {
            due("push", x.push(), push());
        } else if (what < 54) {
            due("pop", x.pop(), pop());
        } else if (what < 64) {
            due("worlds", x.worlds(), worlds());
        } else if (what < 72) {
            int s = pick(0, 9) == 0 ? near(-40, 90, -1, Integer.MIN_VALUE | pick(0, 31)) : pick(0, 31);
            due("world " + s, num(x.world(s)), num(isWorld(s & defined())));
        } else if (what < 80) {
            int l = literal();
            due("holds " + l, x.holds(l), holds(l));
        } else if (what < 90) {
            due("most " + a + " " + b + " " + c, x.most(a, b, c), most(a, b, c));
        } else if (what < 95) {
            int d = limitAt(a, b, c);
            due("bounded " + a + " " + b + " " + c + " " + d, num(x.bounded(a, b, c, d)), num(bounded(a, b, c, d)));
        }
        due("top 0", x.top(0), topOver);
        due("top 1", x.top(1), topUnder);
    }

    public static void main(String[] args) {
        int runs = args.length > 0 ? Integer.parseInt(args[0]) : 60;
        for (int run = 0; run < runs; run++) {
            state = 1000003L * (run + 1) + (args.length > 1 ? Long.parseLong(args[1]) : 0);
            OracleTest second = new OracleTest();
            RationDesk x = new RationDesk();
            int factors = run % 3 == 0 ? 1 : run % 3 == 1 ? 3 : 9;
            int limits = run % 4 == 0 ? 99 : run % 4 == 1 ? 2 : 30;
            int factShare = run % 5 * 20;
            for (int n = 0; n < STEPS; n++) {
                second.step(x, factors, limits, factShare);
            }
        }
        Report.finish();
    }
}
