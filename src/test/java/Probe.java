import java.util.HashMap;
import java.util.Map;

/** Desks to try a call on, numbers out of range, and all that can be seen of a desk. */
final class Probe {
    interface Setup {
        void on(RationDesk x);
    }

    interface Call {
        long on(RationDesk x);
    }

    interface NumberCall {
        long on(RationDesk x, int number);
    }

    /** A new desk. */
    static final Setup NEW = x -> { };
    /** Atoms 1 (linear) and 3 (a fact) alone, level 2, top 27/2. */
    static final Setup SOME = Probe::makeSome;
    /** Atoms 0 .. 3, eight clauses, level 4, top 11/3. */
    static final Setup FULL = Probe::makeFull;
    /** Clauses that contradict each other at level 0, top 9/4. */
    static final Setup NONE = Probe::makeNone;
    /** Five atoms of which every set is possible. */
    static final Setup FREE = Probe::makeFree;
    static final Setup[] ALL = {NEW, SOME, FULL, NONE};

    private static final Map<Setup, String> LOOKS = new HashMap<>();

    private Probe() {
    }

    static long num(boolean answer) {
        return answer ? 1 : 0;
    }

    static RationDesk made(Setup setup) {
        RationDesk x = new RationDesk();
        setup.on(x);
        return x;
    }

    private static void makeFree(RationDesk x) {
        x.linear(0, 1, 0, 0, 0, false);
        x.linear(1, 0, 1, 0, 0, false);
        x.linear(2, 0, 0, 1, 0, false);
        x.fact(3, 0, 1);
        x.fact(4, 1, 2);
    }

    private static void makeSome(RationDesk x) {
        x.linear(1, 2, 1, 0, 7, false);
        x.fact(3, 0, 2);
        x.clause(2, 6, -1);
        x.push();
        x.clause(7, -1, -1);
        x.push();
        x.most(1, 0, 0);
    }

    private static void makeFull(RationDesk x) {
        x.linear(0, 3, 0, 0, 11, false);
        x.linear(1, 0, 1, 0, 0, false);
        x.linear(2, 0, 0, 2, 5, true);
        x.fact(3, 1, 0);
        x.clause(0, -1, -1);
        x.clause(2, 4, -1);
        x.push();
        x.clause(2, 6, -1);
        x.push();
        x.push();
        x.clause(3, 7, 4);
        x.clause(3, 7, -1);
        x.push();
        x.clause(2, 6, 4);
        x.clause(5, -1, -1);
        x.clause(7, 3, -1);
        x.most(1, 0, 0);
    }

    private static void makeNone(RationDesk x) {
        x.linear(0, 0, 4, 0, 9, false);
        x.linear(1, 1, 0, 0, 3, true);
        x.clause(0, -1, -1);
        x.most(0, 1, 0);
        x.clause(1, -1, -1);
    }

    /** Numbers below and above a range: beside it, far away, and such as fit when they are cut to fewer bits. */
    static int[] outside(int low, int high) {
        return new int[] {
            low - 1, high + 1, low - 256, high + 256, low - 65536, high + 65536, high + 32, low - 32,
            Integer.MIN_VALUE, Integer.MIN_VALUE + 1, Integer.MIN_VALUE + high, Integer.MAX_VALUE, Integer.MAX_VALUE - 1,
        };
    }

    /** The call gives this answer on a desk of each setup, and the desk looks as if it had not been made. */
    static void changesNothing(String name, long answer, Call call, Setup... setups) {
        for (Setup setup : setups) {
            RationDesk x = made(setup);
            Report.due(name, call.on(x), answer);
            String plain = LOOKS.computeIfAbsent(setup, s -> look(made(s)));
            String after = look(x);
            if (!after.equals(plain)) {
                Report.wrong(name + " changed\n    " + plain + "\n to " + after);
            }
        }
    }

    /** The same for each number outside a range, but for those that are let through. */
    static void refusesOutside(String name, int low, int high, long answer, NumberCall call, Setup... setups) {
        for (int number : outside(low, high)) {
            changesNothing(name + " with " + number, answer, x -> call.on(x, number), setups);
        }
    }

    /** All that can be seen of a desk; some 100 calls, and the desk is of no more use then. */
    static String look(RationDesk x) {
        StringBuilder seen = new StringBuilder();
        seen.append("top ").append(x.top(0)).append('/').append(x.top(1)).append(" worlds ").append(x.worlds()).append(' ');
        for (int set = 0; set < 32; set++) {
            seen.append(num(x.world(set)));
        }
        seen.append(" holds");
        for (int literal = 0; literal < 10; literal++) {
            seen.append(' ').append(x.holds(literal));
        }
        int[][] sums = {{1, 0, 0}, {0, -1, 0}, {0, 2, 1}, {-1, 1, -3}};
        for (int[] f : sums) {
            seen.append(" most ").append(x.most(f[0], f[1], f[2])).append(' ').append(x.top(0)).append('/').append(x.top(1));
            seen.append(num(x.bounded(f[0], f[1], f[2], 12)));
        }
        // At each level: how many clauses there are and what they leave.
        int level = 0;
        for (int n = 0; n < 6 && level >= 0; n++) {
            seen.append(" | ").append(x.clause(2, 3, -1)).append(' ').append(x.worlds());
            level = x.pop();
            seen.append(" pop ").append(level);
        }
        for (int k = 0; k < 5; k++) {
            seen.append(' ').append(x.clause(2 * k, 2 * k + 1, -1));
        }
        return seen.toString();
    }
}
