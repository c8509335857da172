/** For each promise of the document: ordinary inputs, the edges that it names, and wrong inputs. */
public final class PromisesTest {
    private static int wrong = 0;
    private static String part = "";

    private static void due(String call, long got, long want) {
        if (got != want) {
            wrong++;
            System.out.println(part + ": " + call + " answered " + got + ", due is " + want);
        }
    }

    private static void due(String call, boolean got, boolean want) {
        due(call, got ? 1 : 0, want ? 1 : 0);
    }

    /** The answer of most and what top says after it. */
    private static void dueMost(RationDesk x, int a, int b, int c, int code, long over, long under) {
        String call = "most(" + a + ", " + b + ", " + c + ")";
        due(call, x.most(a, b, c), code);
        due(call + ", top(0)", x.top(0), over);
        due(call + ", top(1)", x.top(1), under);
    }

    private static void newObject() {
        part = "promise 1";
        RationDesk x = new RationDesk();
        due("worlds", x.worlds(), 1);
        for (int set = -3; set < 70; set++) {
            due("world", x.world(set), true);
        }
        for (int literal = -2; literal < 12; literal++) {
            due("holds", x.holds(literal), RationDesk.REFUSED);
            due("clause", x.clause(literal, -1, -1), RationDesk.REFUSED);
        }
        due("pop", x.pop(), RationDesk.REFUSED);
        due("push", x.push(), 1);
        for (int what = -2; what < 4; what++) {
            due("top", x.top(what), 0);
        }
        due("linear", x.linear(0, 1, 0, 0, 0, false), true);
        due("clause", x.clause(0, -1, -1), 1);
        due("REFUSED", RationDesk.REFUSED, -1);
        due("FULL", RationDesk.FULL, -2);
        RationDesk other = new RationDesk();
        due("worlds of another object", other.worlds(), 1);
    }

    private static void linearEdges() {
        part = "promise 2, edges";
        RationDesk x = new RationDesk();
        int[][] bad = {
            {-1, 0, 0, 0, 0}, {5, 0, 0, 0, 0}, {0, -10, 0, 0, 0}, {0, 10, 0, 0, 0}, {0, 0, -10, 0, 0},
            {0, 0, 10, 0, 0}, {0, 0, 0, -10, 0}, {0, 0, 0, 10, 0}, {0, 0, 0, 0, -100}, {0, 0, 0, 0, 100},
            {Integer.MIN_VALUE, 0, 0, 0, 0}, {Integer.MAX_VALUE, 0, 0, 0, 0}, {0, Integer.MIN_VALUE, 0, 0, 0},
            {0, 0, Integer.MAX_VALUE, 0, 0}, {0, 0, 0, Integer.MIN_VALUE, 0}, {0, 0, 0, 0, Integer.MIN_VALUE},
        };
        for (int[] n : bad) {
            due("linear", x.linear(n[0], n[1], n[2], n[3], n[4], true), false);
            due("linear", x.linear(n[0], n[1], n[2], n[3], n[4], false), false);
        }
        for (int literal = 0; literal < 10; literal++) {
            due("holds", x.holds(literal), RationDesk.REFUSED);
        }
        due("linear", x.linear(0, 1, 0, 0, 5, false), true);
        due("linear", x.linear(0, 1, 0, 0, 100, true), false);
        due("clause", x.clause(0, -1, -1), 1);
        dueMost(x, 1, 0, 0, 2, 5, 1);
        dueMost(x, -1, 0, 0, 2, 20, 1);
        due("linear", x.linear(4, -9, -9, -9, -99, true), true);
        due("linear", x.linear(3, 9, 9, 9, 99, false), true);
        due("holds", x.holds(8), 1);
        due("holds", x.holds(6), 1);
    }

    private static void linearMeaning() {
        part = "promise 2, meaning";
        RationDesk x = new RationDesk();
        due("linear", x.linear(0, 1, 0, 0, 5, false), true);
        due("clause", x.clause(0, -1, -1), 1);
        dueMost(x, 1, 0, 0, 2, 5, 1);
        due("linear anew", x.linear(0, 0, 2, 0, 7, false), true);
        dueMost(x, 1, 0, 0, 2, 20, 1);
        dueMost(x, 0, 1, 0, 2, 7, 2);
        due("linear anew", x.linear(0, 0, 0, 3, -7, true), true);
        dueMost(x, 0, 0, 1, 2, -7, 3);
        dueMost(x, 0, 0, -1, 2, 7, 3);
        due("linear anew", x.linear(0, 0, 0, 0, -1, false), true);
        due("worlds", x.worlds(), 0);
        due("linear anew", x.linear(0, 0, 0, 0, 0, false), true);
        due("worlds", x.worlds(), 1);
        due("linear anew", x.linear(0, 0, 0, 0, 1, true), true);
        due("worlds", x.worlds(), 0);
        due("linear anew", x.linear(0, 0, 0, 0, 0, true), true);
        due("worlds", x.worlds(), 1);
        due("linear anew", x.linear(0, 1, 0, 0, 20, false), true);
        due("holds at the edge", x.holds(0), 2);
        due("linear anew", x.linear(0, 1, 0, 0, -20, false), true);
        dueMost(x, 1, 0, 0, 2, -20, 1);
        due("linear anew", x.linear(0, 1, 0, 0, -21, false), true);
        due("worlds", x.worlds(), 0);
    }

    private static void factEdges() {
        part = "promise 3, edges";
        RationDesk x = new RationDesk();
        int[][] bad = {
            {-1, 0, 0}, {5, 0, 0}, {0, -1, 0}, {0, 3, 0}, {0, 0, -1}, {0, 0, 3},
            {Integer.MIN_VALUE, 0, 0}, {0, Integer.MAX_VALUE, 0}, {0, 0, Integer.MIN_VALUE},
        };
        for (int[] n : bad) {
            due("fact", x.fact(n[0], n[1], n[2]), false);
        }
        for (int literal = 0; literal < 10; literal++) {
            due("holds", x.holds(literal), RationDesk.REFUSED);
        }
        due("linear", x.linear(0, 0, 0, 0, 1, false), true);
        due("fact", x.fact(0, 0, 3), false);
        due("holds: the atom is still linear", x.holds(0), 2);
        due("fact", x.fact(0, 2, 1), true);
        due("holds", x.holds(0), 1);
        due("worlds", x.worlds(), 2);
        due("fact", x.fact(4, 2, 2), true);
        due("worlds", x.worlds(), 4);
        due("linear instead of a fact", x.linear(0, 0, 0, 0, 1, false), true);
        due("worlds", x.worlds(), 2);
    }

    private static void factMeaning() {
        part = "promise 3, meaning";
        RationDesk x = new RationDesk();
        x.fact(0, 0, 1);
        x.fact(1, 0, 2);
        x.linear(2, 0, 1, -1, 0, true);
        due("both values: they are equal", x.world(7), true);
        due("both values, not equal", x.world(3), false);
        due("one value, equal", x.world(5), false);
        due("one value, equal", x.world(6), false);
        due("one value, not equal", x.world(1), true);
        due("no value", x.world(0), true);
        due("no value, equal", x.world(4), true);
        due("worlds", x.worlds(), 5);
        x = new RationDesk();
        x.fact(0, 0, 2);
        x.fact(1, 1, 2);
        x.linear(2, 1, -1, 0, 0, true);
        due("same argument, one value", x.world(7), true);
        due("same argument, two answers", x.world(5), false);
        due("same argument, two answers", x.world(6), false);
        due("other argument, two answers", x.world(1), true);
        due("worlds", x.worlds(), 6);
        x = new RationDesk();
        x.fact(0, 0, 0);
        x.fact(1, 1, 1);
        x.linear(2, 1, -1, 0, 0, true);
        due("fixed points, all", x.world(7), true);
        due("fixed points, one", x.world(1), true);
        due("fixed points, one and equal", x.world(5), false);
        due("no fixed points, equal", x.world(4), true);
        x = new RationDesk();
        x.fact(0, 0, 1);
        x.fact(1, 0, 1);
        due("the same fact twice", x.worlds(), 2);
        due("the same fact twice", x.world(1), false);
    }

    /** The equality that a bound forces is what makes facts meet. */
    private static void factsAtEdges() {
        part = "promise 3, with bounds";
        RationDesk x = new RationDesk();
        x.linear(0, 1, 0, 0, -20, false);
        x.linear(1, 0, 1, 0, -20, false);
        x.fact(2, 0, 2);
        x.fact(3, 1, 2);
        x.clause(0, -1, -1);
        x.clause(4, -1, -1);
        x.clause(7, -1, -1);
        due("worlds", x.worlds(), 1);
        due("world: other arguments", x.world(5), true);
        due("world: the same argument", x.world(7), false);
        dueMost(x, 0, -1, 0, 1, 20, 1);
        dueMost(x, 0, 1, 0, 2, 20, 1);
        x.push();
        due("clause", x.clause(2, -1, -1), 4);
        due("worlds", x.worlds(), 0);
        dueMost(x, 0, 1, 0, 0, 0, 0);
        x.pop();
        x.linear(1, 1, -1, 0, 0, true);
        due("world: other arguments", x.world(5), true);
        due("world: the same argument", x.world(7), false);
        x.linear(1, 0, 1, 0, -19, false);
        due("world: near", x.world(7), true);
        dueMost(x, 0, -1, 0, 1, 20, 1);
    }

    private static void clauses() {
        part = "promise 4 and 13";
        RationDesk x = new RationDesk();
        x.linear(0, 1, 0, 0, 0, false);
        x.linear(1, 0, 1, 0, 0, false);
        x.linear(2, 0, 0, 1, 0, false);
        int[][] bad = {
            {-1, -1, -1}, {-1, 0, -1}, {-1, 0, 2}, {0, -1, 2}, {0, -1, 0}, {6, -1, -1}, {7, -1, -1}, {0, 6, -1},
            {0, 2, 7}, {0, 0, 8}, {10, -1, -1}, {0, 10, -1}, {0, 0, 10}, {-2, -1, -1}, {0, -2, -1}, {0, 0, -2},
            {0, -2, 0}, {0, -1, -2}, {Integer.MIN_VALUE, -1, -1}, {0, Integer.MAX_VALUE, -1}, {0, 0, Integer.MIN_VALUE},
            {64, -1, -1}, {0, 64, -1},
        };
        for (int[] n : bad) {
            due("clause " + n[0] + " " + n[1] + " " + n[2], x.clause(n[0], n[1], n[2]), RationDesk.REFUSED);
        }
        due("worlds", x.worlds(), 8);
        due("clause", x.clause(0, 2, 4), 1);
        due("worlds", x.worlds(), 7);
        due("world", x.world(0), false);
        due("clause", x.clause(1, 3, -1), 2);
        due("worlds", x.worlds(), 5);
        due("clause", x.clause(5, -1, -1), 3);
        due("worlds", x.worlds(), 2);
        due("clause", x.clause(1, 1, 1), 4);
        due("worlds", x.worlds(), 1);
        due("world", x.world(2), true);
        due("clause", x.clause(0, 1, -1), 5);
        due("worlds", x.worlds(), 1);
        for (int n = 6; n <= 8; n++) {
            due("clause", x.clause(3, 2, -1), n);
        }
        due("clause", x.clause(0, -1, -1), RationDesk.FULL);
        due("clause", x.clause(0, 2, 4), RationDesk.FULL);
        due("worlds after FULL", x.worlds(), 1);
        for (int[] n : bad) {
            due("REFUSED before FULL", x.clause(n[0], n[1], n[2]), RationDesk.REFUSED);
        }
        due("linear", x.linear(1, 0, 1, 0, 21, false), true);
        due("a clause follows its atom", x.worlds(), 1);
        due("linear", x.linear(2, 0, 0, 1, 21, false), true);
        due("a clause follows its atom", x.worlds(), 0);
    }

    private static void levels() {
        part = "promises 5 and 6";
        RationDesk x = new RationDesk();
        x.linear(0, 1, 0, 0, 0, false);
        due("pop", x.pop(), RationDesk.REFUSED);
        due("clause", x.clause(0, 1, -1), 1);
        for (int level = 1; level <= 4; level++) {
            due("push", x.push(), level);
            due("clause", x.clause(0, 1, -1), level + 1);
        }
        due("push", x.push(), RationDesk.FULL);
        due("push", x.push(), RationDesk.FULL);
        due("clause", x.clause(0, -1, -1), 6);
        due("worlds", x.worlds(), 1);
        due("pop", x.pop(), 3);
        due("worlds", x.worlds(), 2);
        due("clause", x.clause(1, -1, -1), 5);
        due("world", x.world(0), true);
        due("world", x.world(1), false);
        due("pop", x.pop(), 2);
        due("world", x.world(1), true);
        due("clause", x.clause(0, -1, -1), 4);
        due("pop", x.pop(), 1);
        due("pop", x.pop(), 0);
        due("clauses of level 0 stay", x.clause(0, 1, -1), 2);
        due("pop", x.pop(), RationDesk.REFUSED);
        due("nothing changes", x.clause(0, 1, -1), 3);
        due("push", x.push(), 1);
        due("linear", x.linear(1, 0, 1, 0, 0, false), true);
        due("pop", x.pop(), 0);
        due("atoms stay", x.worlds(), 4);
        for (int n = 4; n <= 8; n++) {
            due("clause", x.clause(0, 1, -1), n);
        }
        due("push when full", x.push(), 1);
        due("clause", x.clause(0, 1, -1), RationDesk.FULL);
        due("pop", x.pop(), 0);
        due("clause", x.clause(0, 1, -1), RationDesk.FULL);
    }

    private static void worldsAndWorld() {
        part = "promises 7 and 8";
        RationDesk x = new RationDesk();
        x.linear(1, 1, 0, 0, 5, false);
        x.linear(3, 1, 0, 0, 5, true);
        due("worlds", x.worlds(), 3);
        due("world", x.world(0), true);
        due("world", x.world(2), true);
        due("world", x.world(8), false);
        due("world", x.world(10), true);
        due("undefined atoms are not looked at", x.world(1), true);
        due("undefined atoms are not looked at", x.world(2 + 4 + 16), true);
        due("undefined atoms are not looked at", x.world(8 + 1), false);
        due("far bits", x.world(32), true);
        due("far bits", x.world(Integer.MIN_VALUE | 10), true);
        due("far bits", x.world(Integer.MIN_VALUE | 8), false);
        due("all bits", x.world(-1), true);
        due("clause", x.clause(3, -1, -1), 1);
        due("world", x.world(-1), false);
        due("world", x.world(0), true);
        due("worlds", x.worlds(), 1);
        due("clause", x.clause(2, -1, -1), 2);
        due("worlds", x.worlds(), 0);
        due("world", x.world(0), false);

        part = "promise 7, strict and thin";
        x = new RationDesk();
        x.linear(0, 1, 0, 0, 20, true);
        x.linear(1, 0, 1, 0, 20, true);
        x.linear(2, 0, 0, 1, 20, true);
        x.linear(3, 1, 1, 1, 59, false);
        due("worlds", x.worlds(), 15);
        due("the corner alone", x.world(7), true);
        due("the corner alone", x.world(15), false);
        due("an edge", x.world(3), true);
        due("an edge", x.world(11), true);
        x.linear(4, 1, 1, 1, 60, false);
        due("worlds", x.worlds(), 15);
        due("always", x.holds(8), 2);
    }

    private static void holdsAnswers() {
        part = "promise 9";
        RationDesk x = new RationDesk();
        x.linear(0, 1, 0, 0, 0, false);
        x.linear(1, 1, 0, 0, 3, false);
        int[] bad = {-1, -2, 4, 5, 8, 9, 10, 11, 64, Integer.MIN_VALUE, Integer.MAX_VALUE};
        for (int literal : bad) {
            due("holds " + literal, x.holds(literal), RationDesk.REFUSED);
        }
        for (int literal = 0; literal < 4; literal++) {
            due("holds " + literal, x.holds(literal), 1);
        }
        x.clause(0, -1, -1);
        due("holds 0", x.holds(0), 2);
        due("holds 1", x.holds(1), 0);
        due("holds 2", x.holds(2), 2);
        due("holds 3", x.holds(3), 0);
        x.push();
        x.clause(3, -1, -1);
        for (int literal = 0; literal < 4; literal++) {
            due("no worlds: holds " + literal, x.holds(literal), 0);
        }
        due("no worlds: holds 4", x.holds(4), RationDesk.REFUSED);
        x.pop();
        due("holds 0", x.holds(0), 2);
        x.linear(1, 1, 0, 0, 0, true);
        due("holds 2", x.holds(2), 1);
        due("holds 3", x.holds(3), 1);
    }

    private static void mostRanges() {
        part = "promise 10, ranges";
        RationDesk x = new RationDesk();
        dueMost(x, 9, -9, 9, 2, 540, 1);
        int[][] bad = {
            {10, 0, 0}, {-10, 0, 0}, {0, 10, 0}, {0, -10, 0}, {0, 0, 10}, {0, 0, -10},
            {Integer.MIN_VALUE, 0, 0}, {0, Integer.MAX_VALUE, 0}, {0, 0, Integer.MIN_VALUE},
        };
        for (int[] n : bad) {
            dueMost(x, n[0], n[1], n[2], RationDesk.REFUSED, 540, 1);
        }
        dueMost(x, 0, 0, 0, 2, 0, 1);
        dueMost(x, -9, 0, 0, 2, 180, 1);
        dueMost(x, 0, 0, -1, 2, 20, 1);
    }

    private static void mostAnswers() {
        part = "promise 10, answers";
        RationDesk x = new RationDesk();
        x.linear(0, 2, 3, 0, 7, false);
        x.linear(1, 1, -1, 0, 1, true);
        x.linear(2, 0, 0, 1, 4, true);
        x.clause(0, -1, -1);
        x.clause(2, -1, -1);
        dueMost(x, 5, 0, 0, 2, 10, 1);
        dueMost(x, 1, 1, 0, 2, 3, 1);
        x.push();
        x.clause(1, 5, -1);
        dueMost(x, 0, 0, 1, 2, 20, 1);
        x.clause(5, -1, -1);
        dueMost(x, 0, 0, 1, 2, 20, 1);
        x.linear(2, 0, 0, 1, 20, true);
        dueMost(x, 0, 0, 1, 1, 20, 1);
        dueMost(x, 1, 0, 1, 1, 22, 1);
        dueMost(x, 1, 0, 0, 2, 2, 1);
        x.clause(4, -1, -1);
        dueMost(x, 1, 0, 0, 0, 0, 0);
        x.pop();
        dueMost(x, 9, 9, 9, 2, 207, 1);

        part = "promise 10, reached in one world of two";
        x = new RationDesk();
        x.linear(0, 1, 0, 0, 5, false);
        x.linear(1, 0, 1, 0, 0, false);
        x.linear(2, 1, 0, 0, 5, true);
        x.clause(0, -1, -1);
        x.clause(2, 5, -1);
        dueMost(x, 1, 0, 0, 2, 5, 1);
        x.clause(3, -1, -1);
        dueMost(x, 1, 0, 0, 1, 5, 1);
        dueMost(x, 0, -1, 0, 1, 0, 1);
        dueMost(x, -1, 0, 0, 2, 20, 1);

        part = "promise 10, reached within a face, at none of its corners";
        x = new RationDesk();
        x.linear(0, 0, 1, 0, 20, true);
        x.linear(1, 0, 1, 0, -20, true);
        x.linear(2, 0, 0, 1, 19, false);
        x.linear(3, 0, 0, -1, 19, false);
        x.clause(1, -1, -1);
        x.clause(3, -1, -1);
        x.clause(4, -1, -1);
        x.clause(6, -1, -1);
        dueMost(x, 1, 0, 0, 2, 20, 1);
        dueMost(x, 1, 1, 0, 1, 40, 1);
        dueMost(x, -1, 0, 1, 2, 39, 1);
    }

    private static void mostWithFacts() {
        part = "promise 10, with facts";
        RationDesk x = new RationDesk();
        x.fact(0, 0, 1);
        x.fact(1, 0, 2);
        x.clause(0, -1, -1);
        x.clause(3, -1, -1);
        dueMost(x, 0, 1, 1, 1, 40, 1);
        dueMost(x, 0, 1, -1, 2, 40, 1);
        dueMost(x, 1, 1, 0, 2, 40, 1);
        x.fact(1, 1, 2);
        dueMost(x, 0, 1, 1, 2, 40, 1);
        dueMost(x, 1, 1, 1, 1, 60, 1);
        dueMost(x, 1, 0, 1, 2, 40, 1);
        x.fact(1, 1, 1);
        dueMost(x, 1, 1, 0, 1, 40, 1);
    }

    private static void topStays() {
        part = "promise 11";
        RationDesk x = new RationDesk();
        x.linear(0, 6, 4, 2, 9, true);
        x.linear(1, 0, 1, 0, 0, true);
        x.linear(2, 0, 0, 1, 0, true);
        x.clause(0, -1, -1);
        x.clause(2, -1, -1);
        x.clause(4, -1, -1);
        dueMost(x, 1, 0, 0, 2, 3, 2);
        dueMost(x, -1, 0, 0, 2, -3, 2);
        dueMost(x, 4, 0, 0, 2, 6, 1);
        dueMost(x, -1, 0, 0, 2, -3, 2);
        due("top", x.top(2), 0);
        due("top", x.top(-1), 0);
        due("top", x.top(Integer.MIN_VALUE), 0);
        due("top", x.top(Integer.MAX_VALUE), 0);
        x.most(10, 0, 0);
        x.bounded(7, 0, 0, 5);
        x.worlds();
        x.linear(0, 0, 0, 0, 1, true);
        x.worlds();
        x.push();
        x.pop();
        due("top stays", x.top(0), -3);
        due("top stays", x.top(1), 2);
        dueMost(x, 1, 0, 0, 0, 0, 0);
        due("top", x.top(2), 0);
        x.linear(0, 0, 0, 0, 0, true);
        due("top stays", x.top(1), 0);
        dueMost(x, 0, 0, 0, 2, 0, 1);
        dueMost(x, 0, 1, 0, 2, 0, 1);
    }

    private static void boundedAnswers() {
        part = "promise 12";
        RationDesk x = new RationDesk();
        due("bounded", x.bounded(1, 1, 1, 60), true);
        due("bounded", x.bounded(1, 1, 1, 59), false);
        due("bounded", x.bounded(0, 0, 0, 0), true);
        due("bounded", x.bounded(0, 0, 0, -1), false);
        due("bounded", x.bounded(0, 0, 0, 99), true);
        int[][] bad = {
            {10, 0, 0, 0}, {-10, 0, 0, 0}, {0, 10, 0, 0}, {0, -10, 0, 0}, {0, 0, 10, 0}, {0, 0, -10, 0},
            {0, 0, 0, 100}, {0, 0, 0, -100}, {0, 0, 0, Integer.MAX_VALUE}, {0, 0, 0, Integer.MIN_VALUE},
            {Integer.MIN_VALUE, 0, 0, 0},
        };
        for (int[] n : bad) {
            due("bounded", x.bounded(n[0], n[1], n[2], n[3]), false);
        }
        x.linear(0, 3, 0, 0, 10, false);
        x.clause(0, -1, -1);
        due("bounded", x.bounded(1, 0, 0, 3), false);
        due("bounded", x.bounded(1, 0, 0, 4), true);
        due("bounded", x.bounded(3, 0, 0, 10), true);
        due("bounded", x.bounded(3, 0, 0, 9), false);
        x.linear(0, -1, 0, 0, 4, false);
        x.clause(1, 1, -1);
        due("none", x.bounded(1, 0, 0, -99), true);
        for (int[] n : bad) {
            due("bounded without solutions", x.bounded(n[0], n[1], n[2], n[3]), false);
        }
        x = new RationDesk();
        x.linear(0, 1, 0, 0, 4, false);
        x.linear(1, 1, 0, 0, 4, true);
        x.clause(0, -1, -1);
        x.clause(3, -1, -1);
        due("below a bound that is not reached", x.bounded(1, 0, 0, 4), true);
        due("below a bound that is not reached", x.bounded(2, 0, 0, 7), false);
        due("top is not touched", x.top(1), 0);
    }

    /** The dearest calls, as many as an object may get. */
    private static void manyCalls() {
        part = "512 calls";
        RationDesk x = new RationDesk();
        for (int n = 0; n < 128; n++) {
            due("linear", x.linear(n % 3, 9 - n % 19, n % 17 - 8, n % 13 - 6, n % 199 - 99, n % 2 == 0), true);
            due("fact", x.fact(3 + n % 2, n % 3, n / 3 % 3), true);
            due("worlds", x.worlds() > 0, true);
            due("most", x.most(9, -9, n % 9), 2);
        }
    }

    public static void main(String[] args) {
        newObject();
        linearEdges();
        linearMeaning();
        factEdges();
        factMeaning();
        factsAtEdges();
        clauses();
        levels();
        worldsAndWorld();
        holdsAnswers();
        mostRanges();
        mostAnswers();
        mostWithFacts();
        topStays();
        boundedAnswers();
        manyCalls();
        System.out.println(wrong == 0 ? "all answers are as due" : wrong + " answers are not as due");
        if (wrong != 0) {
            System.exit(1);
        }
    }
}
