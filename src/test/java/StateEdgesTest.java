/** One test for each sentence of "Terms" and of promises 1 to 6 and 13 that names a boundary case. */
public final class StateEdgesTest {
    private static final int R = RationDesk.REFUSED, F = RationDesk.FULL;
    /** A single 1 at the place of each number. */
    private static final int[][] UNIT = {{1, 0, 0}, {0, 1, 0}, {0, 0, 1}};

    private static boolean linear(RationDesk x, int k, int[] unit, int factor, int d, boolean equal) {
        return x.linear(k, factor * unit[0], factor * unit[1], factor * unit[2], d, equal);
    }

    private static void dueHolds(RationDesk x, int k, int want) {
        Report.due("holds(" + 2 * k + ")", x.holds(2 * k), want);
        Report.due("holds(" + (2 * k + 1) + ")", x.holds(2 * k + 1), want < 0 ? want : 2 - want);
    }

    /** Tries one definition after the other on one desk and tells what its atom then is in all worlds. */
    private static void dueOne(int[] unit, int factor, int d, boolean equal, int want) {
        RationDesk x = new RationDesk();
        Report.due("linear", linear(x, 2, unit, factor, d, equal), true);
        dueHolds(x, 2, want);
    }

    private static void numbersEndAtTwenty() {
        Report.part("terms: three rational numbers, each from -20 to 20");
        for (int[] unit : UNIT) {
            RationDesk x = new RationDesk();
            Report.dueMost(x, unit[0], unit[1], unit[2], 2, 20, 1);
            Report.dueMost(x, -unit[0], -unit[1], -unit[2], 2, 20, 1);
            for (int sign = -1; sign <= 1; sign += 2) {
                dueOne(unit, sign, 20, true, 1);
                dueOne(unit, sign, 21, true, 0);
                dueOne(unit, sign, -21, false, 0);
                dueOne(unit, sign, -20, false, 1);
                dueOne(unit, sign, 19, false, 1);
                dueOne(unit, sign, 20, false, 2);
                dueOne(unit, 4 * sign, 80, true, 1);
                dueOne(unit, 4 * sign, 81, true, 0);
                dueOne(unit, 4 * sign, 79, false, 1);
                dueOne(unit, 4 * sign, 80, false, 2);
                dueOne(unit, 4 * sign, -80, false, 1);
                dueOne(unit, 4 * sign, -81, false, 0);
            }
        }
    }

    private static void numbersNeedNotBeWhole() {
        Report.part("terms: rational numbers");
        RationDesk x = new RationDesk();
        x.linear(0, 1, 0, 0, 0, false);
        x.linear(1, 9, 0, 0, 1, false);
        Report.due("world between 0 and 1/9", x.world(2), true);
        Report.due("worlds", x.worlds(), 3);
        x.clause(1, -1, -1);
        x.clause(2, -1, -1);
        Report.dueMost(x, 9, 0, 0, 2, 1, 1);
        Report.dueMost(x, 1, 0, 0, 2, 1, 9);
        Report.dueMost(x, -1, 0, 0, 1, 0, 1);
        // Three planes that meet in one point, at numbers that are whole parts of 2456 alone.
        x = new RationDesk();
        x.linear(0, 9, 8, -9, 1, true);
        x.linear(1, 8, -9, 9, 2, true);
        x.linear(2, -9, 9, 8, 4, true);
        x.clause(0, -1, -1);
        x.clause(2, -1, -1);
        x.clause(4, -1, -1);
        dueSolution(x);
    }

    /** The point by Cramer's rule, each number over -2456. */
    private static void dueSolution(RationDesk x) {
        long whole = det(9, 8, -9, 8, -9, 9, -9, 9, 8);
        long[] over = {
            det(1, 8, -9, 2, -9, 9, 4, 9, 8), det(9, 1, -9, 8, 2, 9, -9, 4, 8), det(9, 8, 1, 8, -9, 2, -9, 9, 4),
        };
        for (int i = 0; i < 3; i++) {
            Report.due("most", x.most(UNIT[i][0], UNIT[i][1], UNIT[i][2]), 2);
            Report.due("the number", x.top(0) * whole, x.top(1) * over[i]);
            Report.due("the denominator is above 0", x.top(1) > 0, true);
        }
        Report.due("worlds", x.worlds(), 1);
    }

    private static long det(long a, long b, long c, long d, long e, long f, long g, long h, long i) {
        return a * (e * i - f * h) - b * (d * i - f * g) + c * (d * h - e * g);
    }

    private static void oneValueForEachNumber() {
        Report.part("terms: a function f from rational numbers to rational numbers");
        RationDesk x = new RationDesk();
        x.linear(0, 1, 1, 1, 60, true);
        x.fact(1, 0, 0);
        x.fact(2, 1, 2);
        x.fact(3, 2, 1);
        x.clause(0, -1, -1);
        Report.due("worlds where all numbers are 20", x.worlds(), 2);
        Report.due("f(20) = 20", x.world(15), true);
        Report.due("f(20) is another number", x.world(1), true);
        Report.due("f(20) is 20 and is not", x.world(3), false);
        x.linear(0, 1, 1, 1, 59, true);
        Report.due("worlds where numbers may differ", x.worlds(), 8);
    }

    private static void numbersMayAllDiffer() {
        Report.part("terms: three rational numbers, all different or some of them equal");
        RationDesk x = new RationDesk();
        x.linear(0, 1, -1, 0, 0, true);
        x.linear(1, 0, 1, -1, 0, true);
        x.linear(2, 1, 0, -1, 0, true);
        Report.due("worlds", x.worlds(), 5);
        int[] possible = {1, 1, 1, 0, 1, 0, 0, 1};
        for (int set = 0; set < 8; set++) {
            Report.due("world " + set, x.world(set), possible[set] == 1);
        }
        x.clause(1, -1, -1);
        x.clause(3, -1, -1);
        x.clause(5, -1, -1);
        Report.due("all different", x.worlds(), 1);
        Report.due("all different", x.world(0), true);
        Report.dueMost(x, 1, 1, 1, 1, 60, 1);
        Report.dueMost(x, 1, -1, 0, 2, 40, 1);
        Report.due("bounded", x.bounded(1, 1, 1, 60), true);
        Report.due("bounded", x.bounded(1, 1, 1, 59), false);
    }

    private static void fiveAtoms() {
        Report.part("terms: atoms 0 .. 4, undefined at first");
        RationDesk x = new RationDesk();
        for (int k = 0; k < 5; k++) {
            dueHolds(x, k, R);
            Report.due("linear " + k, x.linear(k, 1, 0, 0, k, false), true);
            dueHolds(x, k, 1);
            Report.due("worlds", x.worlds(), k + 2);
        }
        Report.due("a sixth atom", x.linear(5, 1, 0, 0, 9, false), false);
        Report.due("worlds", x.worlds(), 6);
    }

    private static void atMostIncludesItsLimit() {
        Report.part("terms: linear, <= d");
        RationDesk x = new RationDesk();
        x.linear(0, 1, 0, 0, 5, false);
        x.linear(1, 9, 0, 0, 45, true);
        Report.due("at the limit", x.world(3), true);
        Report.due("at the limit", x.world(2), false);
        x.linear(1, 9, 0, 0, 46, true);
        Report.due("just above", x.world(3), false);
        Report.due("just above", x.world(2), true);
        x.linear(1, 9, 0, 0, 44, true);
        Report.due("just below", x.world(3), true);
        Report.due("just below", x.world(2), false);
        Report.due("above", x.world(0), true);
    }

    private static void equalIsItsLimitAlone() {
        Report.part("terms: linear, = d");
        RationDesk x = new RationDesk();
        x.linear(0, 3, 0, 0, 10, true);
        x.linear(1, 9, 0, 0, 30, true);
        Report.due("worlds at the limit", x.worlds(), 2);
        Report.due("at the limit", x.world(3), true);
        x.linear(1, 9, 0, 0, 31, true);
        Report.due("beside it", x.world(3), false);
        Report.due("worlds beside it", x.worlds(), 3);
        x.linear(1, 3, 0, 0, 10, false);
        Report.due("below", x.world(2), true);
        Report.due("above", x.world(0), true);
        Report.due("the limit is not above", x.world(1), false);
    }

    /** A limit on one number leaves the others their whole range, at the limit too. */
    private static void limitsLeaveTheOthersAlone() {
        Report.part("terms: linear, <= d or = d, for one number");
        for (int[] unit : UNIT) {
            for (int sign = -1; sign <= 1; sign += 2) {
                RationDesk x = new RationDesk();
                linear(x, 0, unit, sign, 5, false);
                x.clause(0, -1, -1);
                for (int n = 0; n < 8; n++) {
                    // Each sum of the three numbers with signs; the limit counts where its sign is the sum's.
                    int a = 1 - (n & 1) * 2, b = 1 - (n & 2), c = 1 - (n & 4) / 2;
                    boolean limited = a * unit[0] + b * unit[1] + c * unit[2] == sign;
                    linear(x, 0, unit, sign, 5, false);
                    Report.dueMost(x, a, b, c, 2, limited ? 45 : 60, 1);
                    linear(x, 0, unit, sign, 5, true);
                    Report.dueMost(x, a, b, c, 2, limited ? 45 : 35, 1);
                }
            }
        }
    }

    private static void conditionsWithoutNumbers() {
        Report.part("terms: linear, all factors 0");
        for (int d = -1; d <= 1; d++) {
            dueOne(UNIT[0], 0, d, false, d < 0 ? 0 : 2);
            dueOne(UNIT[0], 0, d, true, d == 0 ? 2 : 0);
        }
        dueOne(UNIT[0], 0, 99, false, 2);
        dueOne(UNIT[0], 0, -99, false, 0);
        dueOne(UNIT[0], 0, 99, true, 0);
    }

    private static void literalsOfEachAtom() {
        Report.part("terms: 2 k is atom k, 2 k + 1 that it does not hold");
        for (int literal = 0; literal < 10; literal++) {
            RationDesk x = Probe.made(Probe.FREE);
            Report.due("worlds", x.worlds(), 32);
            Report.due("clause " + literal, x.clause(literal, -1, -1), 1);
            for (int set = 0; set < 32; set++) {
                boolean holding = (set >> literal / 2 & 1) == 1;
                Report.due("literal " + literal + ", world " + set, x.world(set), holding == (literal % 2 == 0));
            }
            Report.due("holds " + literal, x.holds(literal), 2);
            Report.due("holds " + (literal ^ 1), x.holds(literal ^ 1), 0);
        }
    }

    private static void oneLiteralHolding() {
        Report.part("terms: clauses of 1 to 3 literals, satisfied if one of them holds");
        int[][] clauses = {{0, -1, -1, 16}, {0, 2, -1, 24}, {0, 2, 4, 28}, {8, 6, -1, 24}, {9, 7, 5, 28},
            {0, 1, -1, 32}, {0, 0, 0, 16}, {0, 0, -1, 16}, {1, 4, 0, 32}, {9, 9, 9, 16}, {0, 0, 9, 24}, {3, 8, 8, 24}};
        for (int[] c : clauses) {
            RationDesk x = Probe.made(Probe.FREE);
            Report.due("clause", x.clause(c[0], c[1], c[2]), 1);
            Report.due("worlds by " + c[0] + " " + c[1] + " " + c[2], x.worlds(), c[3]);
        }
    }

    private static void allClausesHold() {
        Report.part("terms: satisfies all clauses");
        RationDesk x = Probe.made(Probe.FREE);
        for (int n = 1; n <= 8; n++) {
            // Each clause forbids one more of the eight sets of atoms 0, 1 and 2.
            Report.due("clause", x.clause((n & 1), 2 + (n >> 1 & 1), 4 + (n >> 2 & 1)), n);
            Report.due("worlds", x.worlds(), 32 - 4 * n);
        }
    }

    private static void startsWithoutAtoms() {
        Report.part("promise 1: no atoms");
        RationDesk x = new RationDesk();
        Report.due("worlds", x.worlds(), 1);
        for (int literal = 0; literal < 10; literal++) {
            Report.due("holds " + literal, x.holds(literal), R);
            Report.due("clause " + literal, x.clause(literal, -1, -1), R);
        }
        for (int set = 0; set < 32; set++) {
            Report.due("world " + set, x.world(set), true);
        }
        Report.dueMost(x, 1, 1, 1, 2, 60, 1);
    }

    private static void startsWithoutClauses() {
        Report.part("promise 1: no clauses");
        RationDesk x = Probe.made(Probe.FREE);
        Report.due("worlds", x.worlds(), 32);
        Report.dueMost(x, 1, 1, 1, 2, 60, 1);
        Report.due("bounded", x.bounded(1, 1, 1, 59), false);
        Report.due("clause", x.clause(0, -1, -1), 1);
    }

    private static void startsAtLevelZero() {
        Report.part("promise 1: level 0");
        Report.due("pop", new RationDesk().pop(), R);
        Report.due("push", new RationDesk().push(), 1);
    }

    private static void objectsAreApart() {
        Report.part("promise 1: a new object");
        RationDesk old = Probe.made(Probe.FULL);
        RationDesk x = new RationDesk();
        Report.due("top", x.top(1), 0);
        Report.due("worlds", x.worlds(), 1);
        Report.due("pop", x.pop(), R);
        x.linear(0, 0, 0, 0, 1, true);
        x.clause(0, -1, -1);
        Report.due("worlds", x.worlds(), 0);
        if (!Probe.look(old).equals(Probe.look(Probe.made(Probe.FULL)))) {
            Report.wrong("one object changed another");
        }
    }

    private static void linearTakesItsEdges() {
        Report.part("promise 2: the largest and smallest k, a, b, c and d");
        for (int k = 0; k < 5; k += 4) {
            for (int[] unit : UNIT) {
                for (int side = 0; side < 4; side++) {
                    int factor = side % 2 == 0 ? 9 : -9;
                    int d = side / 2 == 0 ? 99 : -99;
                    RationDesk x = new RationDesk();
                    Report.due("linear", linear(x, k, unit, factor, d, true), true);
                    Report.due("clause", x.clause(2 * k, -1, -1), 1);
                    Report.dueMost(x, unit[0], unit[1], unit[2], 2, d / factor, 1);
                    Report.dueMost(x, -unit[0], -unit[1], -unit[2], 2, -d / factor, 1);
                    Report.due("linear", linear(x, k, unit, factor, d, false), true);
                    int sign = factor / 9;
                    Report.dueMost(x, sign * unit[0], sign * unit[1], sign * unit[2], 2, d / 9, 1);
                }
            }
        }
    }

    private static void linearAnew() {
        Report.part("promise 2: also anew");
        RationDesk x = new RationDesk();
        Report.due("linear", x.linear(0, 1, 0, 0, 5, false), true);
        Report.due("clause", x.clause(0, -1, -1), 1);
        Report.dueMost(x, 1, 0, 0, 2, 5, 1);
        Report.due("linear", x.linear(0, 1, 0, 0, 6, false), true);
        Report.dueMost(x, 1, 0, 0, 2, 6, 1);
        Report.due("other factors", x.linear(0, 0, 1, 0, 6, false), true);
        Report.dueMost(x, 1, 0, 0, 2, 20, 1);
        Report.dueMost(x, 0, 1, 0, 2, 6, 1);
        Report.due("= for <=", x.linear(0, 0, 1, 0, 6, true), true);
        Report.dueMost(x, 0, -1, 0, 2, -6, 1);
        Report.due("<= for =", x.linear(0, 0, 1, 0, 6, false), true);
        Report.dueMost(x, 0, -1, 0, 2, 20, 1);
        Report.due("a fact for linear", x.fact(0, 0, 0), true);
        Report.dueMost(x, 0, 1, 0, 2, 20, 1);
        Report.due("linear for a fact", x.linear(0, 0, 0, 1, 7, true), true);
        Report.dueMost(x, 0, 0, 1, 2, 7, 1);
        Report.due("the clause is there still", x.clause(0, -1, -1), 2);
        Report.due("the same again", x.linear(0, 0, 0, 1, 7, true), true);
        Report.due("worlds", x.worlds(), 1);
    }

    /** Kinds of atoms: the linear ones a, b, c, d, equal or not; the facts i, j. */
    private static final int[][] KINDS = {
        {1, 0, 0, 5, 0}, {0, 1, 0, -7, 1}, {0, 0, -1, 3, 0}, {1, 1, 1, 10, 0}, {3, -2, 5, 17, 1}, {9, 8, -9, 60, 0},
        {1, -1, 0, 0, 1}, {0, 0, 0, 0, 0}, {0, 0, 0, -1, 1}, {1, 0, 0, -21, 0}, {1, 1, 1, -60, 0}, {0, 1}, {2, 2},
    };

    private static boolean define(RationDesk x, int k, int[] kind) {
        if (kind.length == 2) {
            return x.fact(k, kind[0], kind[1]);
        }
        return x.linear(k, kind[0], kind[1], kind[2], kind[3], kind[4] == 1);
    }

    /** Two atoms that were others before, asked about in between, are as if they had been these from the first. */
    private static void anewIsAsIfFirst() {
        Report.part("promises 2 and 3: also anew, and nothing is left of what was");
        for (int[] before : KINDS) {
            for (int[] first : KINDS) {
                for (int[] second : KINDS) {
                    RationDesk fresh = new RationDesk();
                    RationDesk anew = new RationDesk();
                    define(anew, 1, before);
                    define(anew, 3, before);
                    anew.worlds();
                    RationDesk[] both = {fresh, anew};
                    for (RationDesk x : both) {
                        Report.due("definition", define(x, 1, first), true);
                        Report.due("definition", define(x, 3, second), true);
                        x.clause(2, 6, -1);
                        x.push();
                        x.clause(2, -1, -1);
                    }
                    String due = Probe.look(fresh);
                    String got = Probe.look(anew);
                    if (!got.equals(due)) {
                        Report.wrong("anew " + got + "\n    due is " + due);
                    }
                }
            }
        }
    }

    private static void linearRefusesAtoms() {
        Report.part("promise 2: false, and nothing changes, if k is not 0 .. 4");
        Probe.refusesOutside("linear, k", 0, 4, 0, (x, n) -> Probe.num(x.linear(n, 1, 1, 0, 3, true)), Probe.ALL);
        Probe.refusesOutside("linear, k", 0, 4, 0, (x, n) -> Probe.num(x.linear(n, 1, 1, 0, 3, false)), Probe.ALL);
    }

    /** On atoms that are there and on one that is not. */
    private static void linearRefusesNumbers() {
        for (int k = 0; k < 2; k++) {
            int atom = k;
            Report.part("promise 2: false, and nothing changes, if a is out of range");
            Probe.refusesOutside("linear, a", -9, 9, 0, (x, n) -> Probe.num(x.linear(atom, n, 1, 0, 3, true)), Probe.ALL);
            Report.part("promise 2: false, and nothing changes, if b is out of range");
            Probe.refusesOutside("linear, b", -9, 9, 0, (x, n) -> Probe.num(x.linear(atom, 1, n, 0, 3, false)), Probe.ALL);
            Report.part("promise 2: false, and nothing changes, if c is out of range");
            Probe.refusesOutside("linear, c", -9, 9, 0, (x, n) -> Probe.num(x.linear(atom, 1, 0, n, 3, true)), Probe.ALL);
            Report.part("promise 2: false, and nothing changes, if d is out of range");
            Probe.refusesOutside("linear, d", -99, 99, 0, (x, n) -> Probe.num(x.linear(atom, 1, 1, 0, n, false)), Probe.ALL);
        }
        Report.part("promise 2: false, and nothing changes, if more than one number is out of range");
        Probe.changesNothing("linear", 0, x -> Probe.num(x.linear(5, 10, -10, 10, -100, true)), Probe.ALL);
        Probe.changesNothing("linear", 0, x -> Probe.num(x.linear(1, 10, -10, 0, 0, false)), Probe.ALL);
    }

    private static void factTakesItsEdges() {
        Report.part("promise 3: the largest and smallest k, i and j");
        for (int k = 0; k < 5; k += 4) {
            for (int i = 0; i < 3; i++) {
                for (int j = 0; j < 3; j++) {
                    dueFact(k, i, j);
                }
            }
        }
    }

    /** f(xi) = xj against f(xm) = xn: where xi is xm, both hold just if xj is xn too. */
    private static void dueFact(int k, int i, int j) {
        int other = 4 - k;
        for (int m = 0; m < 3; m++) {
            for (int n = 0; n < 3; n++) {
                RationDesk x = new RationDesk();
                Report.due("fact", x.fact(k, i, j), true);
                dueHolds(x, k, 1);
                Report.due("fact", x.fact(other, m, n), true);
                String facts = "f(x" + i + ") = x" + j + ", f(x" + m + ") = x" + n;
                boolean same = i == m && j == n;
                Report.due(facts + ", one alone", x.world(1 << k), !same);
                Report.due(facts + ", both", x.world(1 << k | 1 << other), true);
                Report.due(facts + ", none", x.world(0), true);
                // Where x0, x1 and x2 differ, one argument has one value.
                x.linear(1, 1, -1, 0, 0, true);
                x.linear(2, 0, 1, -1, 0, true);
                x.linear(3, 1, 0, -1, 0, true);
                Report.due(facts + ", both, numbers differ", x.world(1 << k | 1 << other), same || i != m);
                Report.due(facts + ", one alone, numbers equal", x.world(1 << k | 14), false);
                Report.due(facts + ", both, numbers equal", x.world(31), true);
            }
        }
    }

    private static void factAnew() {
        Report.part("promise 3: likewise anew");
        RationDesk x = new RationDesk();
        x.linear(0, 1, 0, 0, 5, true);
        x.clause(0, -1, -1);
        Report.dueMost(x, 1, 0, 0, 2, 5, 1);
        Report.due("a fact for linear", x.fact(0, 0, 1), true);
        Report.dueMost(x, 1, 0, 0, 2, 20, 1);
        x.fact(1, 0, 2);
        x.clause(3, -1, -1);
        Report.dueMost(x, 0, 1, 1, 1, 40, 1);
        Report.due("another argument", x.fact(1, 1, 2), true);
        Report.dueMost(x, 0, 1, 1, 2, 40, 1);
        Report.due("another value", x.fact(1, 0, 1), true);
        Report.due("worlds: f(x0) is x1 and is not", x.worlds(), 0);
    }

    private static void factRefuses() {
        for (int k = 0; k < 4; k += 3) {
            int atom = k;
            Report.part("promise 3: false, and nothing changes, if i is not 0 .. 2");
            Probe.refusesOutside("fact, i", 0, 2, 0, (x, n) -> Probe.num(x.fact(atom, n, 1)), Probe.ALL);
            Report.part("promise 3: false, and nothing changes, if j is not 0 .. 2");
            Probe.refusesOutside("fact, j", 0, 2, 0, (x, n) -> Probe.num(x.fact(atom, 2, n)), Probe.ALL);
        }
        Report.part("promise 3: false, and nothing changes, if k is not 0 .. 4");
        Probe.refusesOutside("fact, k", 0, 4, 0, (x, n) -> Probe.num(x.fact(n, 1, 2)), Probe.ALL);
        Probe.changesNothing("fact, all", 0, x -> Probe.num(x.fact(-1, 3, -1)), Probe.ALL);
    }

    private static void clauseCounts() {
        Report.part("promise 4: how many there are");
        RationDesk x = Probe.made(Probe.FREE);
        Report.due("one literal", x.clause(0, -1, -1), 1);
        Report.due("two literals", x.clause(0, 9, -1), 2);
        Report.due("three literals", x.clause(0, 9, 8), 3);
        Report.due("the same clause again", x.clause(0, -1, -1), 4);
        x.push();
        Report.due("those of lower levels count", x.clause(0, 1, -1), 5);
        x.push();
        Report.due("those of lower levels count", x.clause(0, 1, -1), 6);
        x.pop();
        Report.due("those that pop took do not", x.clause(0, 1, -1), 6);
        x.pop();
        Report.due("those that pop took do not", x.clause(0, 1, -1), 5);
    }

    private static void firstLiteralMustBe() {
        Report.part("promise 4: p must be there");
        int[][] rest = {{-1, -1}, {2, -1}, {2, 6}, {-1, 2}};
        for (int[] c : rest) {
            Probe.changesNothing("clause -1", R, x -> x.clause(-1, c[0], c[1]), Probe.SOME);
        }
    }

    private static void undefinedLiterals() {
        int[] undefined = {0, 1, 4, 5, 8, 9};
        Report.part("promise 4: REFUSED, and nothing changes, if p is of no defined atom");
        for (int v : undefined) {
            Probe.changesNothing("clause, p " + v, R, x -> x.clause(v, -1, -1), Probe.SOME, Probe.NEW);
            Probe.changesNothing("clause, p " + v, R, x -> x.clause(v, 2, 6), Probe.SOME);
        }
        Probe.refusesOutside("clause, p", 0, 9, R, (x, n) -> x.clause(n, -1, -1), Probe.ALL);
        Probe.refusesOutside("clause, p", 0, 9, R, (x, n) -> x.clause(n, 2, 3), Probe.ALL);
        Report.part("promise 4: REFUSED, and nothing changes, if q is of no defined atom");
        for (int v : undefined) {
            Probe.changesNothing("clause, q " + v, R, x -> x.clause(2, v, -1), Probe.SOME);
            Probe.changesNothing("clause, q " + v, R, x -> x.clause(2, v, 6), Probe.SOME);
        }
        Report.part("promise 4: REFUSED, and nothing changes, if r is of no defined atom");
        for (int v : undefined) {
            Probe.changesNothing("clause, r " + v, R, x -> x.clause(2, 6, v), Probe.SOME);
            Probe.changesNothing("clause, all " + v, R, x -> x.clause(v, v, v), Probe.SOME, Probe.NEW);
        }
    }

    /** -1 means "not there" for q and r; each other number that is no literal is of no defined atom. */
    private static void literalsOutOfRange() {
        Report.part("promise 4: REFUSED, and nothing changes, if q or r is no literal");
        for (int v : Probe.outside(0, 9)) {
            int n = v == -1 ? -2 : v;
            Probe.changesNothing("clause, q " + n, R, x -> x.clause(2, n, -1), Probe.SOME, Probe.FULL, Probe.NONE);
            Probe.changesNothing("clause, q " + n, R, x -> x.clause(2, n, 3), Probe.SOME, Probe.FULL, Probe.NONE);
            Probe.changesNothing("clause, r " + n, R, x -> x.clause(2, 3, n), Probe.SOME, Probe.FULL, Probe.NONE);
            Probe.changesNothing("clause, r " + n + " without q", R, x -> x.clause(2, -1, n), Probe.SOME, Probe.FULL);
        }
    }

    private static void thirdWithoutSecond() {
        Report.part("promise 4: REFUSED, and nothing changes, if r is there without q");
        for (int v : new int[] {2, 3, 6, 7}) {
            Probe.changesNothing("clause, r " + v, R, x -> x.clause(2, -1, v), Probe.SOME, Probe.FULL);
        }
        Report.part("promise 4: -1 is not there");
        RationDesk x = Probe.made(Probe.SOME);
        Report.due("neither q nor r", x.clause(2, -1, -1), 3);
        Report.due("q without r", x.clause(2, 3, -1), 4);
        Report.due("q and r", x.clause(2, 3, 6), 5);
    }

    private static void eightClauses() {
        Report.part("promise 4: FULL if there are 8");
        RationDesk x = Probe.made(Probe.FREE);
        for (int n = 1; n <= 8; n++) {
            Report.due("clause", x.clause(0, n, -1), n);
        }
        Report.due("a ninth", x.clause(0, 1, -1), F);
        Report.due("a ninth", x.clause(1, -1, -1), F);
        Report.due("the worlds are as before", x.worlds(), 16);
        Report.part("promise 4: FULL changes nothing");
        Probe.changesNothing("clause", F, y -> y.clause(2, -1, -1), Probe.FULL);
        Probe.changesNothing("clause", F, y -> y.clause(3, 2, -1), Probe.FULL);
        Probe.changesNothing("clause", F, y -> y.clause(0, 1, 2), Probe.FULL);
    }

    private static void eightClausesOnLevels() {
        Report.part("promise 4: FULL over all levels, and no more after pop");
        RationDesk x = Probe.made(Probe.FREE);
        for (int n = 1; n <= 7; n++) {
            Report.due("clause", x.clause(0, -1, -1), n);
        }
        x.push();
        Report.due("the eighth", x.clause(2, -1, -1), 8);
        Report.due("worlds", x.worlds(), 8);
        Report.due("a ninth", x.clause(4, -1, -1), F);
        x.push();
        Report.due("a ninth", x.clause(4, -1, -1), F);
        x.pop();
        Report.due("a ninth", x.clause(4, -1, -1), F);
        x.pop();
        Report.due("worlds", x.worlds(), 16);
        Report.due("the eighth", x.clause(4, -1, -1), 8);
        Report.due("worlds", x.worlds(), 8);
        Report.due("a ninth", x.clause(4, -1, -1), F);
    }

    private static void fourLevels() {
        Report.part("promise 5: the level then; FULL if it is 4");
        RationDesk x = new RationDesk();
        for (int level = 1; level <= 4; level++) {
            Report.due("push", x.push(), level);
        }
        Report.due("push", x.push(), F);
        Report.due("push", x.push(), F);
        Report.due("pop", x.pop(), 3);
        Report.due("push", x.push(), 4);
        Report.due("push", x.push(), F);
        Report.part("promise 5: FULL changes nothing");
        Probe.changesNothing("push", F, y -> y.push(), Probe.FULL);
        Probe.changesNothing("push", F, y -> Math.min(y.push(), y.push()), Probe.FULL);
    }

    private static void pushKeepsClauses() {
        Report.part("promise 5: push goes one up");
        RationDesk x = Probe.made(Probe.NONE);
        Report.due("push", x.push(), 1);
        Report.due("worlds", x.worlds(), 0);
        Report.due("clause", x.clause(0, 1, -1), 3);
        Report.due("top stays", x.top(0), 9);
    }

    private static void noLevelBelowZero() {
        Report.part("promise 6: REFUSED if the level is 0");
        RationDesk x = new RationDesk();
        Report.due("pop", x.pop(), R);
        Report.due("pop", x.pop(), R);
        Report.due("push", x.push(), 1);
        Report.due("pop", x.pop(), 0);
        Report.due("pop", x.pop(), R);
        Report.part("promise 6: REFUSED changes nothing");
        Probe.changesNothing("pop", R, y -> y.pop(), Probe.NEW, Probe.NONE);
        Probe.changesNothing("pop", R, y -> Math.max(y.pop(), y.pop()), Probe.NEW, Probe.NONE);
    }

    private static void popsAnswerTheLevel() {
        Report.part("promise 6: the level then");
        RationDesk x = new RationDesk();
        for (int high = 1; high <= 4; high++) {
            for (int level = 1; level <= high; level++) {
                Report.due("push", x.push(), level);
            }
            for (int level = high - 1; level >= 0; level--) {
                Report.due("pop", x.pop(), level);
            }
            Report.due("pop", x.pop(), R);
        }
    }

    private static void popTakesItsClausesAlone() {
        Report.part("terms: pop takes the clauses away that were added since that push");
        RationDesk x = Probe.made(Probe.FREE);
        x.clause(0, -1, -1);
        x.push();
        x.clause(2, -1, -1);
        x.clause(4, -1, -1);
        x.push();
        x.push();
        x.clause(6, -1, -1);
        x.push();
        Report.due("worlds of level 4", x.worlds(), 2);
        Report.due("a level without clauses", x.pop(), 3);
        Report.due("worlds of level 3", x.worlds(), 2);
        Report.due("a level with one", x.pop(), 2);
        Report.due("worlds of level 2", x.worlds(), 4);
        Report.due("the count", x.clause(8, -1, -1), 4);
        Report.due("worlds", x.worlds(), 2);
        Report.due("a level that got one later", x.pop(), 1);
        Report.due("worlds of level 1", x.worlds(), 4);
        Report.due("push again", x.push(), 2);
        x.clause(9, -1, -1);
        Report.due("worlds", x.worlds(), 2);
        Report.due("that push, not an older one", x.pop(), 1);
        Report.due("worlds of level 1", x.worlds(), 4);
        Report.due("a level with two", x.pop(), 0);
        Report.due("worlds of level 0", x.worlds(), 16);
        Report.due("none is left below", x.pop(), R);
        Report.due("those of level 0 stay", x.worlds(), 16);
        Report.due("the count", x.clause(0, 1, -1), 2);
    }

    private static void popTakesNoAtoms() {
        Report.part("terms: pop takes the clauses away (and nothing else)");
        RationDesk x = new RationDesk();
        x.linear(0, 1, 0, 0, 5, false);
        x.clause(0, -1, -1);
        x.push();
        x.linear(0, 1, 0, 0, 4, false);
        x.fact(1, 0, 0);
        Report.dueMost(x, 1, 0, 0, 2, 4, 1);
        x.pop();
        Report.due("top", x.top(0), 4);
        Report.dueMost(x, 1, 0, 0, 2, 4, 1);
        dueHolds(x, 1, 1);
    }

    private static void refusedBeforeFull() {
        Report.part("promise 13: REFUSED is tested before FULL");
        int[][] refused = {{8, -1, -1}, {9, 2, -1}, {2, 8, -1}, {2, 9, 4}, {2, 4, 8}, {2, -1, 4}, {-1, -1, -1}, {-1, 2, 4},
            {10, 2, 4}, {2, 10, -1}, {2, 4, 10}, {-2, -1, -1}, {2, -2, -1}, {2, 4, -2}, {2, -1, 8}};
        for (int[] c : refused) {
            Probe.changesNothing("clause " + c[0] + " " + c[1] + " " + c[2], R, x -> x.clause(c[0], c[1], c[2]), Probe.FULL);
        }
        RationDesk x = Probe.made(Probe.FULL);
        Report.due("a good clause", x.clause(2, 4, 6), F);
        x.fact(4, 0, 0);
        Report.due("the atom is there now", x.clause(8, -1, -1), F);
    }

    public static void main(String[] args) {
        numbersEndAtTwenty();
        numbersNeedNotBeWhole();
        oneValueForEachNumber();
        numbersMayAllDiffer();
        fiveAtoms();
        atMostIncludesItsLimit();
        equalIsItsLimitAlone();
        limitsLeaveTheOthersAlone();
        conditionsWithoutNumbers();
        literalsOfEachAtom();
        oneLiteralHolding();
        allClausesHold();
        startsWithoutAtoms();
        startsWithoutClauses();
        startsAtLevelZero();
        objectsAreApart();
        linearTakesItsEdges();
        linearAnew();
        anewIsAsIfFirst();
        linearRefusesAtoms();
        linearRefusesNumbers();
        factTakesItsEdges();
        factAnew();
        factRefuses();
        clauseCounts();
        firstLiteralMustBe();
        undefinedLiterals();
        literalsOutOfRange();
        thirdWithoutSecond();
        eightClauses();
        eightClausesOnLevels();
        fourLevels();
        pushKeepsClauses();
        noLevelBelowZero();
        popsAnswerTheLevel();
        popTakesItsClausesAlone();
        popTakesNoAtoms();
        refusedBeforeFull();
        Report.finish();
    }
}
