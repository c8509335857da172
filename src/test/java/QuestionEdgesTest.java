/** One test for each sentence of promises 7 to 12, and of the 512 calls, that names a boundary case. */
public final class QuestionEdgesTest {
    private static final int R = RationDesk.REFUSED;

    /** Atom 0: x0 <= 5, in all solutions. */
    private static RationDesk upToFive() {
        RationDesk x = new RationDesk();
        x.linear(0, 1, 0, 0, 5, false);
        x.clause(0, -1, -1);
        return x;
    }

    /** Atoms 0 and 1: x0 <= 5 and not x0 = 5, so that 5 is not reached. */
    private static RationDesk belowFive() {
        RationDesk x = upToFive();
        x.linear(1, 1, 0, 0, 5, true);
        x.clause(3, -1, -1);
        return x;
    }

    private static RationDesk withoutSolutions() {
        RationDesk x = upToFive();
        x.clause(1, -1, -1);
        return x;
    }

    private static void dueTop(RationDesk x, String when, long over, long under) {
        Report.due("top(0) " + when, x.top(0), over);
        Report.due("top(1) " + when, x.top(1), under);
    }

    private static void noWorlds() {
        Report.part("promise 7: no worlds");
        RationDesk x = withoutSolutions();
        Report.due("clauses that contradict each other", x.worlds(), 0);
        x = upToFive();
        x.linear(0, 1, 0, 0, -21, false);
        Report.due("an atom that can't hold", x.worlds(), 0);
        x = new RationDesk();
        x.linear(0, 1, 0, 0, 20, false);
        x.clause(1, -1, -1);
        Report.due("an atom that always holds", x.worlds(), 0);
        x.linear(0, 1, 0, 0, 19, false);
        Report.due("an atom that need not hold", x.worlds(), 1);
    }

    private static void oneWorldWithoutAtoms() {
        Report.part("promise 7: no atoms, no clauses");
        RationDesk x = new RationDesk();
        Report.due("worlds", x.worlds(), 1);
        x.push();
        Report.due("worlds", x.worlds(), 1);
        Report.part("promise 7: atoms without clauses");
        x.linear(3, 0, 0, 0, 0, false);
        Report.due("worlds", x.worlds(), 1);
        x.linear(3, 1, 0, 0, 0, false);
        Report.due("worlds", x.worlds(), 2);
    }

    private static void allWorlds() {
        Report.part("promise 7: every set of five atoms");
        RationDesk x = Probe.made(Probe.FREE);
        Report.due("worlds", x.worlds(), 32);
        for (int set = 0; set < 32; set++) {
            Report.due("world " + set, x.world(set), true);
        }
    }

    private static void worldsThatMeetInOnePoint() {
        Report.part("promise 7: worlds without room");
        RationDesk x = new RationDesk();
        x.linear(0, 1, 1, 1, 60, true);
        x.linear(1, 1, 1, 1, -60, true);
        x.linear(2, 1, -1, 0, 40, true);
        x.linear(3, 1, 1, 1, 60, false);
        x.linear(4, -1, 0, 0, -20, false);
        // Atom 0 is one corner of the box, 1 another, 2 an edge, 3 all of it, 4 a side.
        Report.due("worlds", x.worlds(), 5);
        Report.due("the corner", x.world(25), true);
        Report.due("the other corner", x.world(10), true);
        Report.due("the edge", x.world(28), true);
        Report.due("the side", x.world(24), true);
        Report.due("the rest", x.world(8), true);
        Report.due("both corners", x.world(27), false);
        Report.due("a corner on the edge", x.world(29), false);
        Report.due("the edge beside the side", x.world(12), false);
    }

    private static void bitsOfAtoms() {
        Report.part("promise 8: bit k for atom k");
        for (int k = 0; k < 5; k++) {
            RationDesk x = Probe.made(Probe.FREE);
            x.linear(k, 0, 0, 0, 0, true);
            for (int set = 0; set < 32; set++) {
                Report.due("atom " + k + " always holds, world " + set, x.world(set), (set >> k & 1) == 1);
            }
        }
    }

    private static void bitsOfUndefinedAtoms() {
        Report.part("promise 8: those that are not defined are not looked at");
        for (int k = 0; k < 5; k++) {
            RationDesk x = new RationDesk();
            x.linear(k, 1, 0, 0, 21, false);
            for (int set = 0; set < 32; set++) {
                Report.due("atom " + k + " alone, world " + set, x.world(set), (set >> k & 1) == 1);
            }
        }
        RationDesk x = new RationDesk();
        for (int set = 0; set < 32; set++) {
            Report.due("no atoms, world " + set, x.world(set), true);
        }
        Report.due("no atoms, world -1", x.world(-1), true);
        Report.due("no atoms, smallest", x.world(Integer.MIN_VALUE), true);
        Report.due("no atoms, largest", x.world(Integer.MAX_VALUE), true);
    }

    private static void bitsBeyondAtoms() {
        Report.part("promise 8: bits of no atom are not looked at");
        RationDesk x = Probe.made(Probe.FREE);
        x.clause(0, -1, -1);
        x.clause(3, -1, -1);
        for (int bit = 5; bit < 32; bit++) {
            Report.due("world 1, bit " + bit, x.world(1 | 1 << bit), true);
            Report.due("world 3, bit " + bit, x.world(3 | 1 << bit), false);
            Report.due("world 0, bit " + bit, x.world(1 << bit), false);
        }
        Report.due("all bits but that of atom 1", x.world(~2), true);
        Report.due("all bits", x.world(-1), false);
        Report.due("the smallest", x.world(Integer.MIN_VALUE), false);
        Report.due("the smallest and atom 0", x.world(Integer.MIN_VALUE + 1), true);
        Report.due("the largest", x.world(Integer.MAX_VALUE), false);
        Report.due("the largest but atom 1", x.world(Integer.MAX_VALUE - 2), true);
    }

    private static void noWorldWithoutSolutions() {
        Report.part("promise 8: no solutions");
        RationDesk x = withoutSolutions();
        for (int set = -1; set < 33; set++) {
            Report.due("world " + set, x.world(set), false);
        }
    }

    private static void holdsInNoneSomeAll() {
        Report.part("promise 9: 0 in no world, 1 in some but not all, 2 in all");
        RationDesk x = new RationDesk();
        x.linear(4, 1, 0, 0, 0, false);
        Report.due("some", x.holds(8), 1);
        Report.due("some", x.holds(9), 1);
        x.linear(4, 1, 0, 0, 20, true);
        Report.due("at one edge alone", x.holds(8), 1);
        Report.due("but there", x.holds(9), 1);
        x.linear(4, 1, 0, 0, 20, false);
        Report.due("all", x.holds(8), 2);
        Report.due("none", x.holds(9), 0);
        x.linear(4, -1, 0, 0, -21, false);
        Report.due("none", x.holds(8), 0);
        Report.due("all", x.holds(9), 2);
        x = Probe.made(Probe.FREE);
        for (int literal = 0; literal < 10; literal++) {
            Report.due("holds " + literal, x.holds(literal), 1);
        }
        // One world of 31 is without atom 4.
        x.linear(4, 1, 1, 1, 59, false);
        x.linear(3, 1, 0, 0, 20, false);
        Report.due("in all but one world", x.holds(8), 1);
        Report.due("in one world alone", x.holds(9), 1);
    }

    private static void holdsWithoutWorlds() {
        Report.part("promise 9: 2 in all (and there are some)");
        RationDesk x = withoutSolutions();
        x.linear(3, 0, 0, 0, 0, true);
        for (int literal : new int[] {0, 1, 6, 7}) {
            Report.due("no worlds, holds " + literal, x.holds(literal), 0);
        }
        for (int literal : new int[] {2, 3, 4, 5, 8, 9}) {
            Report.due("no worlds, holds " + literal, x.holds(literal), R);
        }
    }

    private static void holdsRefuses() {
        Report.part("promise 9: REFUSED if the literal is of no defined atom");
        for (int literal : new int[] {0, 1, 4, 5, 8, 9}) {
            Probe.changesNothing("holds " + literal, R, x -> x.holds(literal), Probe.NEW, Probe.SOME);
        }
        for (int literal = 0; literal < 10; literal++) {
            int n = literal;
            Probe.changesNothing("holds " + literal, R, x -> x.holds(n), Probe.NEW);
        }
        Probe.refusesOutside("holds", 0, 9, R, (x, n) -> x.holds(n), Probe.ALL);
        RationDesk x = Probe.made(Probe.FREE);
        Report.due("below", x.holds(-1), R);
        Report.due("the first", x.holds(0), 1);
        Report.due("the last", x.holds(9), 1);
        Report.due("above", x.holds(10), R);
    }

    private static void mostTakesItsEdges() {
        Report.part("promise 10: -9 .. 9 each");
        RationDesk x = new RationDesk();
        for (int n = 0; n < 27; n++) {
            int a = n / 9 * 9 - 9, b = n / 3 % 3 * 9 - 9, c = n % 3 * 9 - 9;
            Report.dueMost(x, a, b, c, 2, 20L * (Math.abs(a) + Math.abs(b) + Math.abs(c)), 1);
        }
    }

    private static void mostRefuses() {
        Report.part("promise 10: REFUSED if a is out of range");
        Probe.refusesOutside("most, a", -9, 9, R, (x, n) -> x.most(n, 1, 1), Probe.ALL);
        Report.part("promise 10: REFUSED if b is out of range");
        Probe.refusesOutside("most, b", -9, 9, R, (x, n) -> x.most(0, n, 0), Probe.ALL);
        Report.part("promise 10: REFUSED if c is out of range");
        Probe.refusesOutside("most, c", -9, 9, R, (x, n) -> x.most(9, -9, n), Probe.ALL);
        Report.part("promise 10: REFUSED if more than one number is out of range");
        Probe.changesNothing("most", R, x -> x.most(10, 10, 10), Probe.ALL);
        Probe.changesNothing("most", R, x -> x.most(-10, Integer.MIN_VALUE, Integer.MAX_VALUE), Probe.ALL);
        Report.due("no solutions", withoutSolutions().most(0, 0, 10), R);
    }

    private static void boundThatIsReached() {
        Report.part("promise 10: 2 if there is a solution with that value");
        Report.dueMost(upToFive(), 1, 0, 0, 2, 5, 1);
        Report.dueMost(upToFive(), 0, 0, 0, 2, 0, 1);
        RationDesk x = upToFive();
        x.linear(0, 1, 1, 0, 40, true);
        Report.dueMost(x, 1, 0, 0, 2, 20, 1);
        Report.dueMost(x, -1, -1, 0, 2, -40, 1);
        Report.part("promise 10: reached in one world, come near to in another");
        x = upToFive();
        x.linear(1, 1, 0, 0, 5, true);
        x.linear(2, 0, 1, 0, 20, true);
        x.clause(4, 3, -1);
        Report.dueMost(x, 1, 0, 0, 2, 5, 1);
        x.clause(3, -1, -1);
        Report.dueMost(x, 1, 0, 0, 1, 5, 1);
        Report.part("promise 10: reached inside a side, not at its corners");
        x = new RationDesk();
        x.linear(0, 0, 1, 0, 20, true);
        x.linear(1, 0, 1, 0, -20, true);
        x.clause(1, -1, -1);
        x.clause(3, -1, -1);
        Report.dueMost(x, 1, 0, 0, 2, 20, 1);
        Report.dueMost(x, 1, 1, 0, 1, 40, 1);
    }

    private static void boundThatIsNotReached() {
        Report.part("promise 10: 1 if there is no solution with that value");
        Report.dueMost(belowFive(), 1, 0, 0, 1, 5, 1);
        Report.dueMost(belowFive(), -1, 0, 0, 2, 20, 1);
        Report.dueMost(belowFive(), 1, 1, 0, 1, 25, 1);
        Report.dueMost(belowFive(), 0, 1, 0, 2, 20, 1);
        RationDesk x = new RationDesk();
        x.linear(1, -3, 0, 0, 7, false);
        x.clause(3, -1, -1);
        Report.dueMost(x, 1, 0, 0, 1, -7, 3);
        Report.dueMost(x, -1, 0, 0, 2, 20, 1);
        x.linear(1, 3, 0, 0, -7, false);
        Report.dueMost(x, -1, 0, 0, 1, 7, 3);
        Report.part("promise 10: not reached where it is highest, reached in a world below");
        x = belowFive();
        x.linear(2, 1, 0, 0, 4, false);
        Report.dueMost(x, 1, 0, 0, 1, 5, 1);
        x.clause(4, -1, -1);
        Report.dueMost(x, 1, 0, 0, 2, 4, 1);
        Report.part("promise 10: a fact keeps the numbers apart");
        x = new RationDesk();
        x.fact(0, 0, 0);
        x.fact(1, 1, 1);
        x.clause(0, -1, -1);
        x.clause(3, -1, -1);
        Report.dueMost(x, 1, 1, 0, 1, 40, 1);
        Report.dueMost(x, 1, -1, 0, 2, 40, 1);
        Report.dueMost(x, 1, 0, 1, 2, 40, 1);
        Report.dueMost(x, 0, 0, 0, 2, 0, 1);
    }

    private static void boundWithoutSolutions() {
        Report.part("promise 10: 0 if there are no solutions");
        Report.dueMost(withoutSolutions(), 1, 0, 0, 0, 0, 0);
        Report.dueMost(withoutSolutions(), 0, 0, 0, 0, 0, 0);
        RationDesk x = upToFive();
        Report.dueMost(x, 1, 0, 0, 2, 5, 1);
        x.push();
        x.clause(1, -1, -1);
        Report.dueMost(x, 1, 0, 0, 0, 0, 0);
        x.pop();
        Report.dueMost(x, 1, 0, 0, 2, 5, 1);
        x.linear(0, 1, 0, 0, -20, false);
        Report.dueMost(x, 1, 0, 0, 2, -20, 1);
        x.linear(0, 1, 0, 0, -21, false);
        Report.dueMost(x, 1, 0, 0, 0, 0, 0);
        Report.dueMost(x, -1, 0, 0, 0, 0, 0);
    }

    private static void topBeforeMost() {
        Report.part("promise 11: 0 if there was none");
        RationDesk x = new RationDesk();
        dueTop(x, "of a new object", 0, 0);
        x.most(10, 0, 0);
        x.most(0, 0, -10);
        dueTop(x, "after REFUSED alone", 0, 0);
        x.bounded(1, 0, 0, 5);
        x.worlds();
        dueTop(x, "after other questions", 0, 0);
        x.most(0, 0, 0);
        dueTop(x, "after the first", 0, 1);
    }

    private static void topOfNoBound() {
        Report.part("promise 11: 0 if there was no bound");
        RationDesk x = upToFive();
        x.most(1, 0, 0);
        dueTop(x, "with a bound", 5, 1);
        x.clause(1, -1, -1);
        dueTop(x, "before the next most", 5, 1);
        x.most(1, 0, 0);
        dueTop(x, "without solutions", 0, 0);
        x.most(-10, 0, 0);
        dueTop(x, "after REFUSED then", 0, 0);
    }

    private static void topOfAnother() {
        Report.part("promise 11: 0 if what is another");
        for (Probe.Setup setup : Probe.ALL) {
            Probe.refusesOutside("top", 0, 1, 0, (x, n) -> x.top(n), setup);
            Probe.changesNothing("top 2", 0, x -> x.top(2), setup);
            Probe.changesNothing("top -1", 0, x -> x.top(-1), setup);
        }
    }

    private static void topIsReduced() {
        Report.part("promise 11: the denominator above 0, without a common divisor");
        RationDesk x = new RationDesk();
        x.clause(0, -1, -1);
        int[][] cases = {{9, 99, 11, 1}, {9, -99, -11, 1}, {-9, 99, -11, 1}, {-9, -99, 11, 1}, {9, 6, 2, 3}, {9, -6, -2, 3},
            {-6, 9, -3, 2}, {8, 98, 49, 4}, {9, 98, 98, 9}, {7, 0, 0, 1}, {-7, 0, 0, 1}, {1, -20, -20, 1}, {9, 1, 1, 9}};
        for (int[] c : cases) {
            x.linear(0, c[0], 0, 0, c[1], true);
            x.clause(0, -1, -1);
            Report.dueMost(x, 1, 0, 0, 2, c[2], c[3]);
            Report.dueMost(x, -1, 0, 0, 2, -c[2], c[3]);
        }
        x.linear(0, 6, 0, 0, 9, true);
        Report.dueMost(x, 4, 0, 0, 2, 6, 1);
        Report.dueMost(x, 9, 0, 0, 2, 27, 2);
        Report.dueMost(x, 0, 0, 0, 2, 0, 1);
    }

    private static void topOfTheLatestMost() {
        Report.part("promise 11: the latest most() that was not REFUSED");
        RationDesk x = upToFive();
        Report.dueMost(x, 1, 0, 0, 2, 5, 1);
        Report.dueMost(x, 0, -1, 0, 2, 20, 1);
        for (int bad : Probe.outside(-9, 9)) {
            Report.dueMost(x, bad, 0, 0, R, 20, 1);
            Report.dueMost(x, 0, bad, 0, R, 20, 1);
            Report.dueMost(x, 0, 0, bad, R, 20, 1);
        }
        Report.dueMost(x, 1, 0, 0, 2, 5, 1);
    }

    private static void topStays() {
        Report.part("promise 10: what top() answers stays from then on, whatever changes");
        Probe.Call[] calls = {
            x -> Probe.num(x.linear(0, 1, 0, 0, -3, true)), x -> Probe.num(x.linear(4, 0, 0, 0, 1, true)),
            x -> Probe.num(x.linear(5, 0, 0, 0, 1, true)), x -> Probe.num(x.fact(0, 0, 1)), x -> Probe.num(x.fact(3, 0, 3)),
            x -> x.clause(1, -1, -1), x -> x.clause(0, -1, 0), x -> x.push(), x -> x.pop(), x -> x.worlds(),
            x -> Probe.num(x.world(1)), x -> x.holds(0), x -> x.holds(-1), x -> x.most(10, 0, 0), x -> x.top(1), x -> x.top(7),
            x -> Probe.num(x.bounded(0, 1, 0, 3)), x -> Probe.num(x.bounded(1, 0, 0, 6)), x -> Probe.num(x.bounded(1, 0, 0, 100)),
        };
        for (int n = 0; n < calls.length; n++) {
            RationDesk x = new RationDesk();
            x.linear(0, 6, 0, 0, 27, false);
            x.push();
            x.clause(0, -1, -1);
            x.most(1, 0, 0);
            calls[n].on(x);
            dueTop(x, "after call " + n, 9, 2);
            x.worlds();
            dueTop(x, "after call " + n + " and worlds", 9, 2);
        }
        RationDesk x = new RationDesk();
        x.linear(0, 6, 0, 0, 27, false);
        x.clause(0, -1, -1);
        x.most(1, 0, 0);
        for (int n = 0; n < calls.length; n++) {
            calls[n].on(x);
            dueTop(x, "after calls up to " + n, 9, 2);
        }
    }

    private static void boundedTakesItsEdges() {
        Report.part("promise 12: numbers as for atoms");
        RationDesk x = new RationDesk();
        Report.due("largest d", x.bounded(0, 0, 0, 99), true);
        Report.due("smallest d", x.bounded(0, 0, 0, -99), false);
        for (int n = 0; n < 6; n++) {
            int factor = n < 3 ? 9 : -9;
            int[] f = {0, 0, 0};
            f[n % 3] = factor;
            x.linear(0, f[0], f[1], f[2], 98, true);
            x.clause(0, -1, -1);
            Report.due("factor " + factor, x.bounded(f[0], f[1], f[2], 98), true);
            Report.due("factor " + factor, x.bounded(f[0], f[1], f[2], 97), false);
            x.linear(0, f[0], f[1], f[2], -99, true);
            Report.due("smallest d", x.bounded(f[0], f[1], f[2], -99), true);
            x.linear(0, f[0], f[1], f[2], -98, true);
            Report.due("smallest d", x.bounded(f[0], f[1], f[2], -99), false);
            x.linear(0, f[0], f[1], f[2], 99, true);
            Report.due("largest d", x.bounded(f[0], f[1], f[2], 99), true);
        }
        x = new RationDesk();
        Report.due("all largest", x.bounded(9, 9, 9, 99), false);
        Report.due("all smallest", x.bounded(-9, -9, -9, -99), false);
    }

    private static void boundedRefuses() {
        Report.part("promise 12: false if a is out of range");
        Probe.refusesOutside("bounded, a", -9, 9, 0, (x, n) -> Probe.num(x.bounded(n, 0, 0, 99)), Probe.ALL);
        Report.part("promise 12: false if b is out of range");
        Probe.refusesOutside("bounded, b", -9, 9, 0, (x, n) -> Probe.num(x.bounded(0, n, 0, 99)), Probe.ALL);
        Report.part("promise 12: false if c is out of range");
        Probe.refusesOutside("bounded, c", -9, 9, 0, (x, n) -> Probe.num(x.bounded(0, 0, n, 99)), Probe.ALL);
        Report.part("promise 12: false if d is out of range");
        Probe.refusesOutside("bounded, d", -99, 99, 0, (x, n) -> Probe.num(x.bounded(0, 0, 0, n)), Probe.ALL);
        Report.due("all out of range", new RationDesk().bounded(10, 10, 10, 100), false);
    }

    private static void boundedAtTheBound() {
        Report.part("promise 12: whether all have the sum <= d");
        RationDesk x = upToFive();
        Report.due("at the bound", x.bounded(1, 0, 0, 5), true);
        Report.due("below the bound", x.bounded(1, 0, 0, 4), false);
        Report.due("above the bound", x.bounded(1, 0, 0, 6), true);
        Report.due("the other way", x.bounded(-1, 0, 0, 20), true);
        Report.due("the other way", x.bounded(-1, 0, 0, 19), false);
        Report.due("no sum", x.bounded(0, 0, 0, 0), true);
        Report.due("no sum", x.bounded(0, 0, 0, -1), false);
        x = belowFive();
        Report.due("at a bound that is not reached", x.bounded(1, 0, 0, 5), true);
        Report.due("below a bound that is not reached", x.bounded(1, 0, 0, 4), false);
        Report.due("just below a bound that is not reached", x.bounded(9, 0, 0, 44), false);
        x.linear(0, 9, 0, 0, 46, false);
        Report.due("just above", x.bounded(1, 0, 0, 5), false);
        x.linear(0, 9, 0, 0, 44, false);
        Report.due("just below", x.bounded(1, 0, 0, 5), true);
        x.linear(0, 9, 0, 0, -44, false);
        Report.due("just above, negative", x.bounded(1, 0, 0, -5), false);
        x.linear(0, 9, 0, 0, -46, false);
        Report.due("just below, negative", x.bounded(1, 0, 0, -5), true);
        Report.part("promise 12: one world above d is enough");
        x = new RationDesk();
        x.linear(0, 1, 0, 0, 3, false);
        x.linear(1, 1, 0, 0, 20, true);
        x.clause(0, 2, -1);
        Report.due("bounded", x.bounded(1, 0, 0, 19), false);
        Report.due("bounded", x.bounded(1, 0, 0, 20), true);
        x.clause(3, -1, -1);
        Report.due("bounded", x.bounded(1, 0, 0, 3), true);
    }

    private static void boundedWithoutSolutions() {
        Report.part("promise 12: true also if there are none");
        RationDesk x = withoutSolutions();
        Report.due("bounded", x.bounded(1, 0, 0, -99), true);
        Report.due("bounded", x.bounded(0, 0, 0, -1), true);
        Report.due("bounded", x.bounded(9, 9, 9, 0), true);
        Report.due("bounded", x.bounded(-9, -9, -9, 99), true);
        x = upToFive();
        x.linear(0, 1, 0, 0, -21, false);
        Report.due("an atom that can't hold", x.bounded(0, 0, 0, -99), true);
        x.linear(0, 1, 0, 0, -20, false);
        Report.due("one that can", x.bounded(0, 0, 0, -99), false);
    }

    private static void boundedChangesNothing() {
        Report.part("promise 12: changes nothing");
        Probe.changesNothing("bounded", 0, x -> Probe.num(x.bounded(0, 0, 0, -99)), Probe.NEW, Probe.SOME, Probe.FULL);
        Probe.changesNothing("bounded", 1, x -> Probe.num(x.bounded(1, 1, 1, 99)), Probe.ALL);
    }

    private static void questionsChangeNothing() {
        Report.part("promises 7 to 9: change nothing");
        Probe.changesNothing("worlds", 1, x -> x.worlds(), Probe.NEW, Probe.SOME, Probe.FULL);
        Probe.changesNothing("worlds", 0, x -> x.worlds(), Probe.NONE);
        Probe.changesNothing("world", 1, x -> Probe.num(x.world(3)), Probe.NEW, Probe.SOME, Probe.FULL);
        Probe.changesNothing("world", 0, x -> Probe.num(x.world(8)), Probe.SOME, Probe.FULL, Probe.NONE);
        Probe.changesNothing("holds", 2, x -> x.holds(2), Probe.SOME, Probe.FULL);
        Probe.changesNothing("holds", 0, x -> x.holds(2), Probe.NONE);
    }

    /** The last of the 512 calls answers as each before it, also when all are the dearest. */
    private static void lastCall() {
        Report.part("what it is: at most 512 calls");
        for (int last = 0; last < 4; last++) {
            RationDesk x = Probe.made(Probe.FREE);
            x.clause(0, 2, 4);
            x.clause(7, -1, -1);
            for (int n = 8; n <= 510; n++) {
                if (n % 3 == 0) {
                    Report.due("linear", x.linear(n / 3 % 3, 1, 0, 0, n % 2 * 5, false), true);
                } else {
                    Report.due("most", x.most(n % 19 - 9, 9, -9) > 0, true);
                }
            }
            x.linear(0, 2, 0, 0, 9, true);
            if (last == 0) {
                Report.due("call 512", x.most(0, -1, 9), 2);
            } else if (last == 1) {
                Report.due("call 512", x.top(1), 1);
            } else if (last == 2) {
                Report.due("call 512", x.clause(9, 0, 1), 3);
            } else {
                Report.due("call 512", x.push(), 1);
            }
        }
    }

    public static void main(String[] args) {
        noWorlds();
        oneWorldWithoutAtoms();
        allWorlds();
        worldsThatMeetInOnePoint();
        bitsOfAtoms();
        bitsOfUndefinedAtoms();
        bitsBeyondAtoms();
        noWorldWithoutSolutions();
        holdsInNoneSomeAll();
        holdsWithoutWorlds();
        holdsRefuses();
        mostTakesItsEdges();
        mostRefuses();
        boundThatIsReached();
        boundThatIsNotReached();
        boundWithoutSolutions();
        topBeforeMost();
        topOfNoBound();
        topOfAnother();
        topIsReduced();
        topOfTheLatestMost();
        topStays();
        boundedTakesItsEdges();
        boundedRefuses();
        boundedAtTheBound();
        boundedWithoutSolutions();
        boundedChangesNothing();
        questionsChangeNothing();
        lastCall();
        Report.finish();
    }
}
