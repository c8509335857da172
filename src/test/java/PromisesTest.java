/** For each promise of the document: ordinary inputs, the edges that it names, and wrong inputs. */
public final class PromisesTest {
    private static void newObject() {
        Report.part("promise 1");
        RationDesk x = new RationDesk();
        Report.due("worlds", x.worlds(), 1);
        for (int set = -3; set < 70; set++) {
            Report.due("world", x.world(set), true);
        }
        for (int literal = -2; literal < 12; literal++) {
            Report.due("holds", x.holds(literal), RationDesk.REFUSED);
            Report.due("clause", x.clause(literal, -1, -1), RationDesk.REFUSED);
        }
        Report.due("pop", x.pop(), RationDesk.REFUSED);
        Report.due("push", x.push(), 1);
        for (int what = -2; what < 4; what++) {
            Report.due("top", x.top(what), 0);
        }
        Report.due("linear", x.linear(0, 1, 0, 0, 0, false), true);
        Report.due("clause", x.clause(0, -1, -1), 1);
        Report.due("REFUSED", RationDesk.REFUSED, -1);
        Report.due("FULL", RationDesk.FULL, -2);
        RationDesk other = new RationDesk();
        Report.due("worlds of another object", other.worlds(), 1);
    }

    private static void linearEdges() {
        Report.part("promise 2, edges");
        RationDesk x = new RationDesk();
        int[][] bad = {
            {-1, 0, 0, 0, 0}, {5, 0, 0, 0, 0}, {0, -10, 0, 0, 0}, {0, 10, 0, 0, 0}, {0, 0, -10, 0, 0},
            {0, 0, 10, 0, 0}, {0, 0, 0, -10, 0}, {0, 0, 0, 10, 0}, {0, 0, 0, 0, -100}, {0, 0, 0, 0, 100},
            {Integer.MIN_VALUE, 0, 0, 0, 0}, {Integer.MAX_VALUE, 0, 0, 0, 0}, {0, Integer.MIN_VALUE, 0, 0, 0},
            {0, 0, Integer.MAX_VALUE, 0, 0}, {0, 0, 0, Integer.MIN_VALUE, 0}, {0, 0, 0, 0, Integer.MIN_VALUE},
        };
        for (int[] n : bad) {
            Report.due("linear", x.linear(n[0], n[1], n[2], n[3], n[4], true), false);
            Report.due("linear", x.linear(n[0], n[1], n[2], n[3], n[4], false), false);
        }
        for (int literal = 0; literal < 10; literal++) {
            Report.due("holds", x.holds(literal), RationDesk.REFUSED);
        }
        Report.due("linear", x.linear(0, 1, 0, 0, 5, false), true);
        Report.due("linear", x.linear(0, 1, 0, 0, 100, true), false);
        Report.due("clause", x.clause(0, -1, -1), 1);
        Report.dueMost(x, 1, 0, 0, 2, 5, 1);
        Report.dueMost(x, -1, 0, 0, 2, 20, 1);
        Report.due("linear", x.linear(4, -9, -9, -9, -99, true), true);
        Report.due("linear", x.linear(3, 9, 9, 9, 99, false), true);
        Report.due("holds", x.holds(8), 1);
        Report.due("holds", x.holds(6), 1);
    }

    private static void linearMeaning() {
        Report.part("promise 2, meaning");
        RationDesk x = new RationDesk();
        Report.due("linear", x.linear(0, 1, 0, 0, 5, false), true);
        Report.due("clause", x.clause(0, -1, -1), 1);
        Report.dueMost(x, 1, 0, 0, 2, 5, 1);
        Report.due("linear anew", x.linear(0, 0, 2, 0, 7, false), true);
        Report.dueMost(x, 1, 0, 0, 2, 20, 1);
        Report.dueMost(x, 0, 1, 0, 2, 7, 2);
        Report.due("linear anew", x.linear(0, 0, 0, 3, -7, true), true);
        Report.dueMost(x, 0, 0, 1, 2, -7, 3);
        Report.dueMost(x, 0, 0, -1, 2, 7, 3);
        Report.due("linear anew", x.linear(0, 0, 0, 0, -1, false), true);
        Report.due("worlds", x.worlds(), 0);
        Report.due("linear anew", x.linear(0, 0, 0, 0, 0, false), true);
        Report.due("worlds", x.worlds(), 1);
        Report.due("linear anew", x.linear(0, 0, 0, 0, 1, true), true);
        Report.due("worlds", x.worlds(), 0);
        Report.due("linear anew", x.linear(0, 0, 0, 0, 0, true), true);
        Report.due("worlds", x.worlds(), 1);
        Report.due("linear anew", x.linear(0, 1, 0, 0, 20, false), true);
        Report.due("holds at the edge", x.holds(0), 2);
        Report.due("linear anew", x.linear(0, 1, 0, 0, -20, false), true);
        Report.dueMost(x, 1, 0, 0, 2, -20, 1);
        Report.due("linear anew", x.linear(0, 1, 0, 0, -21, false), true);
        Report.due("worlds", x.worlds(), 0);
    }

    private static void factEdges() {
        Report.part("promise 3, edges");
        RationDesk x = new RationDesk();
        int[][] bad = {
            {-1, 0, 0}, {5, 0, 0}, {0, -1, 0}, {0, 3, 0}, {0, 0, -1}, {0, 0, 3},
            {Integer.MIN_VALUE, 0, 0}, {0, Integer.MAX_VALUE, 0}, {0, 0, Integer.MIN_VALUE},
        };
        for (int[] n : bad) {
            Report.due("fact", x.fact(n[0], n[1], n[2]), false);
        }
        for (int literal = 0; literal < 10; literal++) {
            Report.due("holds", x.holds(literal), RationDesk.REFUSED);
        }
        Report.due("linear", x.linear(0, 0, 0, 0, 1, false), true);
        Report.due("fact", x.fact(0, 0, 3), false);
        Report.due("holds: the atom is still linear", x.holds(0), 2);
        Report.due("fact", x.fact(0, 2, 1), true);
        Report.due("holds", x.holds(0), 1);
        Report.due("worlds", x.worlds(), 2);
        Report.due("fact", x.fact(4, 2, 2), true);
        Report.due("worlds", x.worlds(), 4);
        Report.due("linear instead of a fact", x.linear(0, 0, 0, 0, 1, false), true);
        Report.due("worlds", x.worlds(), 2);
    }

    private static void factMeaning() {
        Report.part("promise 3, meaning");
        RationDesk x = new RationDesk();
        x.fact(0, 0, 1);
        x.fact(1, 0, 2);
        x.linear(2, 0, 1, -1, 0, true);
        Report.due("both values: they are equal", x.world(7), true);
        Report.due("both values, not equal", x.world(3), false);
        Report.due("one value, equal", x.world(5), false);
        Report.due("one value, equal", x.world(6), false);
        Report.due("one value, not equal", x.world(1), true);
        Report.due("no value", x.world(0), true);
        Report.due("no value, equal", x.world(4), true);
        Report.due("worlds", x.worlds(), 5);
        x = new RationDesk();
        x.fact(0, 0, 2);
        x.fact(1, 1, 2);
        x.linear(2, 1, -1, 0, 0, true);
        Report.due("same argument, one value", x.world(7), true);
        Report.due("same argument, two answers", x.world(5), false);
        Report.due("same argument, two answers", x.world(6), false);
        Report.due("other argument, two answers", x.world(1), true);
        Report.due("worlds", x.worlds(), 6);
        x = new RationDesk();
        x.fact(0, 0, 0);
        x.fact(1, 1, 1);
        x.linear(2, 1, -1, 0, 0, true);
        Report.due("fixed points, all", x.world(7), true);
        Report.due("fixed points, one", x.world(1), true);
        Report.due("fixed points, one and equal", x.world(5), false);
        Report.due("no fixed points, equal", x.world(4), true);
        x = new RationDesk();
        x.fact(0, 0, 1);
        x.fact(1, 0, 1);
        Report.due("the same fact twice", x.worlds(), 2);
        Report.due("the same fact twice", x.world(1), false);
    }

    /** The equality that a bound forces is what makes facts meet. */
    private static void factsAtEdges() {
        Report.part("promise 3, with bounds");
        RationDesk x = new RationDesk();
        x.linear(0, 1, 0, 0, -20, false);
        x.linear(1, 0, 1, 0, -20, false);
        x.fact(2, 0, 2);
        x.fact(3, 1, 2);
        x.clause(0, -1, -1);
        x.clause(4, -1, -1);
        x.clause(7, -1, -1);
        Report.due("worlds", x.worlds(), 1);
        Report.due("world: other arguments", x.world(5), true);
        Report.due("world: the same argument", x.world(7), false);
        Report.dueMost(x, 0, -1, 0, 1, 20, 1);
        Report.dueMost(x, 0, 1, 0, 2, 20, 1);
        x.push();
        Report.due("clause", x.clause(2, -1, -1), 4);
        Report.due("worlds", x.worlds(), 0);
        Report.dueMost(x, 0, 1, 0, 0, 0, 0);
        x.pop();
        x.linear(1, 1, -1, 0, 0, true);
        Report.due("world: other arguments", x.world(5), true);
        Report.due("world: the same argument", x.world(7), false);
        x.linear(1, 0, 1, 0, -19, false);
        Report.due("world: near", x.world(7), true);
        Report.dueMost(x, 0, -1, 0, 1, 20, 1);
    }

    private static void clauses() {
        Report.part("promise 4 and 13");
        RationDesk x = new RationDesk();
        x.linear(0, 1, 0, 0, 0, false);
        x.linear(1, 0, 1, 0, 0, false);
        x.linear(2, 0, 0, 1, 0, false);
        int[][] bad = {
            {-1, -1, -1}, {-1, 0, -1}, {-1, 0, 2}, {0, -1, 2}, {0, -1, 0}, {6, -1, -1}, {7, -1, -1}, {0, 6, -1},
            {0, 2, 7}, {0, 0, 8}, {10, -1, -1}, {0, 10, -1}, {0, 0, 10}, {-2, -1, -1}, {0, -2, -1}, {0, 0, -2},
            {0, -2, 0}, {0, -1, -2}, {Integer.MIN_VALUE, -1, -1}, {0, Integer.MAX_VALUE, -1}, {0, 0, Integer.MIN_VALUE},
            {64, -1, -1}, {0, 64, -1},
        };
        for (int[] n : bad) {
            Report.due("clause " + n[0] + " " + n[1] + " " + n[2], x.clause(n[0], n[1], n[2]), RationDesk.REFUSED);
        }
        Report.due("worlds", x.worlds(), 8);
        Report.due("clause", x.clause(0, 2, 4), 1);
        Report.due("worlds", x.worlds(), 7);
        Report.due("world", x.world(0), false);
        Report.due("clause", x.clause(1, 3, -1), 2);
        Report.due("worlds", x.worlds(), 5);
        Report.due("clause", x.clause(5, -1, -1), 3);
        Report.due("worlds", x.worlds(), 2);
        Report.due("clause", x.clause(1, 1, 1), 4);
        Report.due("worlds", x.worlds(), 1);
        Report.due("world", x.world(2), true);
        Report.due("clause", x.clause(0, 1, -1), 5);
        Report.due("worlds", x.worlds(), 1);
        for (int n = 6; n <= 8; n++) {
            Report.due("clause", x.clause(3, 2, -1), n);
        }
        Report.due("clause", x.clause(0, -1, -1), RationDesk.FULL);
        Report.due("clause", x.clause(0, 2, 4), RationDesk.FULL);
        Report.due("worlds after FULL", x.worlds(), 1);
        for (int[] n : bad) {
            Report.due("REFUSED before FULL", x.clause(n[0], n[1], n[2]), RationDesk.REFUSED);
        }
        Report.due("linear", x.linear(1, 0, 1, 0, 21, false), true);
        Report.due("a clause follows its atom", x.worlds(), 1);
        Report.due("linear", x.linear(2, 0, 0, 1, 21, false), true);
        Report.due("a clause follows its atom", x.worlds(), 0);
    }

    private static void levels() {
        Report.part("promises 5 and 6");
        RationDesk x = new RationDesk();
        x.linear(0, 1, 0, 0, 0, false);
        Report.due("pop", x.pop(), RationDesk.REFUSED);
        Report.due("clause", x.clause(0, 1, -1), 1);
        for (int level = 1; level <= 4; level++) {
            Report.due("push", x.push(), level);
            Report.due("clause", x.clause(0, 1, -1), level + 1);
        }
        Report.due("push", x.push(), RationDesk.FULL);
        Report.due("push", x.push(), RationDesk.FULL);
        Report.due("clause", x.clause(0, -1, -1), 6);
        Report.due("worlds", x.worlds(), 1);
        Report.due("pop", x.pop(), 3);
        Report.due("worlds", x.worlds(), 2);
        Report.due("clause", x.clause(1, -1, -1), 5);
        Report.due("world", x.world(0), true);
        Report.due("world", x.world(1), false);
        Report.due("pop", x.pop(), 2);
        Report.due("world", x.world(1), true);
        Report.due("clause", x.clause(0, -1, -1), 4);
        Report.due("pop", x.pop(), 1);
        Report.due("pop", x.pop(), 0);
        Report.due("clauses of level 0 stay", x.clause(0, 1, -1), 2);
        Report.due("pop", x.pop(), RationDesk.REFUSED);
        Report.due("nothing changes", x.clause(0, 1, -1), 3);
        Report.due("push", x.push(), 1);
        Report.due("linear", x.linear(1, 0, 1, 0, 0, false), true);
        Report.due("pop", x.pop(), 0);
        Report.due("atoms stay", x.worlds(), 4);
        for (int n = 4; n <= 8; n++) {
            Report.due("clause", x.clause(0, 1, -1), n);
        }
        Report.due("push when full", x.push(), 1);
        Report.due("clause", x.clause(0, 1, -1), RationDesk.FULL);
        Report.due("pop", x.pop(), 0);
        Report.due("clause", x.clause(0, 1, -1), RationDesk.FULL);
    }

    private static void worldsAndWorld() {
        Report.part("promises 7 and 8");
        RationDesk x = new RationDesk();
        x.linear(1, 1, 0, 0, 5, false);
        x.linear(3, 1, 0, 0, 5, true);
        Report.due("worlds", x.worlds(), 3);
        Report.due("world", x.world(0), true);
        Report.due("world", x.world(2), true);
        Report.due("world", x.world(8), false);
        Report.due("world", x.world(10), true);
        Report.due("undefined atoms are not looked at", x.world(1), true);
        Report.due("undefined atoms are not looked at", x.world(2 + 4 + 16), true);
        Report.due("undefined atoms are not looked at", x.world(8 + 1), false);
        Report.due("far bits", x.world(32), true);
        Report.due("far bits", x.world(Integer.MIN_VALUE | 10), true);
        Report.due("far bits", x.world(Integer.MIN_VALUE | 8), false);
        Report.due("all bits", x.world(-1), true);
        Report.due("clause", x.clause(3, -1, -1), 1);
        Report.due("world", x.world(-1), false);
        Report.due("world", x.world(0), true);
        Report.due("worlds", x.worlds(), 1);
        Report.due("clause", x.clause(2, -1, -1), 2);
        Report.due("worlds", x.worlds(), 0);
        Report.due("world", x.world(0), false);

        Report.part("promise 7, strict and thin");
        x = new RationDesk();
        x.linear(0, 1, 0, 0, 20, true);
        x.linear(1, 0, 1, 0, 20, true);
        x.linear(2, 0, 0, 1, 20, true);
        x.linear(3, 1, 1, 1, 59, false);
        Report.due("worlds", x.worlds(), 15);
        Report.due("the corner alone", x.world(7), true);
        Report.due("the corner alone", x.world(15), false);
        Report.due("an edge", x.world(3), true);
        Report.due("an edge", x.world(11), true);
        x.linear(4, 1, 1, 1, 60, false);
        Report.due("worlds", x.worlds(), 15);
        Report.due("always", x.holds(8), 2);
    }

    private static void holdsAnswers() {
        Report.part("promise 9");
        RationDesk x = new RationDesk();
        x.linear(0, 1, 0, 0, 0, false);
        x.linear(1, 1, 0, 0, 3, false);
        int[] bad = {-1, -2, 4, 5, 8, 9, 10, 11, 64, Integer.MIN_VALUE, Integer.MAX_VALUE};
        for (int literal : bad) {
            Report.due("holds " + literal, x.holds(literal), RationDesk.REFUSED);
        }
        for (int literal = 0; literal < 4; literal++) {
            Report.due("holds " + literal, x.holds(literal), 1);
        }
        x.clause(0, -1, -1);
        Report.due("holds 0", x.holds(0), 2);
        Report.due("holds 1", x.holds(1), 0);
        Report.due("holds 2", x.holds(2), 2);
        Report.due("holds 3", x.holds(3), 0);
        x.push();
        x.clause(3, -1, -1);
        for (int literal = 0; literal < 4; literal++) {
            Report.due("no worlds: holds " + literal, x.holds(literal), 0);
        }
        Report.due("no worlds: holds 4", x.holds(4), RationDesk.REFUSED);
        x.pop();
        Report.due("holds 0", x.holds(0), 2);
        x.linear(1, 1, 0, 0, 0, true);
        Report.due("holds 2", x.holds(2), 1);
        Report.due("holds 3", x.holds(3), 1);
    }

    private static void mostRanges() {
        Report.part("promise 10, ranges");
        RationDesk x = new RationDesk();
        Report.dueMost(x, 9, -9, 9, 2, 540, 1);
        int[][] bad = {
            {10, 0, 0}, {-10, 0, 0}, {0, 10, 0}, {0, -10, 0}, {0, 0, 10}, {0, 0, -10},
            {Integer.MIN_VALUE, 0, 0}, {0, Integer.MAX_VALUE, 0}, {0, 0, Integer.MIN_VALUE},
        };
        for (int[] n : bad) {
            Report.dueMost(x, n[0], n[1], n[2], RationDesk.REFUSED, 540, 1);
        }
        Report.dueMost(x, 0, 0, 0, 2, 0, 1);
        Report.dueMost(x, -9, 0, 0, 2, 180, 1);
        Report.dueMost(x, 0, 0, -1, 2, 20, 1);
    }

    private static void mostAnswers() {
        Report.part("promise 10, answers");
        RationDesk x = new RationDesk();
        x.linear(0, 2, 3, 0, 7, false);
        x.linear(1, 1, -1, 0, 1, true);
        x.linear(2, 0, 0, 1, 4, true);
        x.clause(0, -1, -1);
        x.clause(2, -1, -1);
        Report.dueMost(x, 5, 0, 0, 2, 10, 1);
        Report.dueMost(x, 1, 1, 0, 2, 3, 1);
        x.push();
        x.clause(1, 5, -1);
        Report.dueMost(x, 0, 0, 1, 2, 20, 1);
        x.clause(5, -1, -1);
        Report.dueMost(x, 0, 0, 1, 2, 20, 1);
        x.linear(2, 0, 0, 1, 20, true);
        Report.dueMost(x, 0, 0, 1, 1, 20, 1);
        Report.dueMost(x, 1, 0, 1, 1, 22, 1);
        Report.dueMost(x, 1, 0, 0, 2, 2, 1);
        x.clause(4, -1, -1);
        Report.dueMost(x, 1, 0, 0, 0, 0, 0);
        x.pop();
        Report.dueMost(x, 9, 9, 9, 2, 207, 1);

        Report.part("promise 10, reached in one world of two");
        x = new RationDesk();
        x.linear(0, 1, 0, 0, 5, false);
        x.linear(1, 0, 1, 0, 0, false);
        x.linear(2, 1, 0, 0, 5, true);
        x.clause(0, -1, -1);
        x.clause(2, 5, -1);
        Report.dueMost(x, 1, 0, 0, 2, 5, 1);
        x.clause(3, -1, -1);
        Report.dueMost(x, 1, 0, 0, 1, 5, 1);
        Report.dueMost(x, 0, -1, 0, 1, 0, 1);
        Report.dueMost(x, -1, 0, 0, 2, 20, 1);

        Report.part("promise 10, reached within a face, at none of its corners");
        x = new RationDesk();
        x.linear(0, 0, 1, 0, 20, true);
        x.linear(1, 0, 1, 0, -20, true);
        x.linear(2, 0, 0, 1, 19, false);
        x.linear(3, 0, 0, -1, 19, false);
        x.clause(1, -1, -1);
        x.clause(3, -1, -1);
        x.clause(4, -1, -1);
        x.clause(6, -1, -1);
        Report.dueMost(x, 1, 0, 0, 2, 20, 1);
        Report.dueMost(x, 1, 1, 0, 1, 40, 1);
        Report.dueMost(x, -1, 0, 1, 2, 39, 1);
    }

    private static void mostWithFacts() {
        Report.part("promise 10, with facts");
        RationDesk x = new RationDesk();
        x.fact(0, 0, 1);
        x.fact(1, 0, 2);
        x.clause(0, -1, -1);
        x.clause(3, -1, -1);
        Report.dueMost(x, 0, 1, 1, 1, 40, 1);
        Report.dueMost(x, 0, 1, -1, 2, 40, 1);
        Report.dueMost(x, 1, 1, 0, 2, 40, 1);
        x.fact(1, 1, 2);
        Report.dueMost(x, 0, 1, 1, 2, 40, 1);
        Report.dueMost(x, 1, 1, 1, 1, 60, 1);
        Report.dueMost(x, 1, 0, 1, 2, 40, 1);
        x.fact(1, 1, 1);
        Report.dueMost(x, 1, 1, 0, 1, 40, 1);
    }

    private static void topStays() {
        Report.part("promise 11");
        RationDesk x = new RationDesk();
        x.linear(0, 6, 4, 2, 9, true);
        x.linear(1, 0, 1, 0, 0, true);
        x.linear(2, 0, 0, 1, 0, true);
        x.clause(0, -1, -1);
        x.clause(2, -1, -1);
        x.clause(4, -1, -1);
        Report.dueMost(x, 1, 0, 0, 2, 3, 2);
        Report.dueMost(x, -1, 0, 0, 2, -3, 2);
        Report.dueMost(x, 4, 0, 0, 2, 6, 1);
        Report.dueMost(x, -1, 0, 0, 2, -3, 2);
        Report.due("top", x.top(2), 0);
        Report.due("top", x.top(-1), 0);
        Report.due("top", x.top(Integer.MIN_VALUE), 0);
        Report.due("top", x.top(Integer.MAX_VALUE), 0);
        x.most(10, 0, 0);
        x.bounded(7, 0, 0, 5);
        x.worlds();
        x.linear(0, 0, 0, 0, 1, true);
        x.worlds();
        x.push();
        x.pop();
        Report.due("top stays", x.top(0), -3);
        Report.due("top stays", x.top(1), 2);
        Report.dueMost(x, 1, 0, 0, 0, 0, 0);
        Report.due("top", x.top(2), 0);
        x.linear(0, 0, 0, 0, 0, true);
        Report.due("top stays", x.top(1), 0);
        Report.dueMost(x, 0, 0, 0, 2, 0, 1);
        Report.dueMost(x, 0, 1, 0, 2, 0, 1);
    }

    private static void boundedAnswers() {
        Report.part("promise 12");
        RationDesk x = new RationDesk();
        Report.due("bounded", x.bounded(1, 1, 1, 60), true);
        Report.due("bounded", x.bounded(1, 1, 1, 59), false);
        Report.due("bounded", x.bounded(0, 0, 0, 0), true);
        Report.due("bounded", x.bounded(0, 0, 0, -1), false);
        Report.due("bounded", x.bounded(0, 0, 0, 99), true);
        int[][] bad = {
            {10, 0, 0, 0}, {-10, 0, 0, 0}, {0, 10, 0, 0}, {0, -10, 0, 0}, {0, 0, 10, 0}, {0, 0, -10, 0},
            {0, 0, 0, 100}, {0, 0, 0, -100}, {0, 0, 0, Integer.MAX_VALUE}, {0, 0, 0, Integer.MIN_VALUE},
            {Integer.MIN_VALUE, 0, 0, 0},
        };
        for (int[] n : bad) {
            Report.due("bounded", x.bounded(n[0], n[1], n[2], n[3]), false);
        }
        x.linear(0, 3, 0, 0, 10, false);
        x.clause(0, -1, -1);
        Report.due("bounded", x.bounded(1, 0, 0, 3), false);
        Report.due("bounded", x.bounded(1, 0, 0, 4), true);
        Report.due("bounded", x.bounded(3, 0, 0, 10), true);
        Report.due("bounded", x.bounded(3, 0, 0, 9), false);
        x.linear(0, -1, 0, 0, 4, false);
        x.clause(1, 1, -1);
        Report.due("none", x.bounded(1, 0, 0, -99), true);
        for (int[] n : bad) {
            Report.due("bounded without solutions", x.bounded(n[0], n[1], n[2], n[3]), false);
        }
        x = new RationDesk();
        x.linear(0, 1, 0, 0, 4, false);
        x.linear(1, 1, 0, 0, 4, true);
        x.clause(0, -1, -1);
        x.clause(3, -1, -1);
        Report.due("below a bound that is not reached", x.bounded(1, 0, 0, 4), true);
        Report.due("below a bound that is not reached", x.bounded(2, 0, 0, 7), false);
        Report.due("top is not touched", x.top(1), 0);
    }

    /** The dearest calls, as many as an object may get. */
    private static void manyCalls() {
        Report.part("512 calls");
        RationDesk x = new RationDesk();
        for (int n = 0; n < 128; n++) {
            Report.due("linear", x.linear(n % 3, 9 - n % 19, n % 17 - 8, n % 13 - 6, n % 199 - 99, n % 2 == 0), true);
            Report.due("fact", x.fact(3 + n % 2, n % 3, n / 3 % 3), true);
            Report.due("worlds", x.worlds() > 0, true);
            Report.due("most", x.most(9, -9, n % 9), 2);
        }
    }

    public static void main(String[] args) {
        newObject();
        linearEdges();
        linearMeaning();
        factEdges();
        factMeaning();
        factsAtEdges();
        clauses();
        levels();
        worldsAndWorld();
        holdsAnswers();
        mostRanges();
        mostAnswers();
        mostWithFacts();
        topStays();
        boundedAnswers();
        manyCalls();
        Report.finish();
    }
}
