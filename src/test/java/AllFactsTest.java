/** Every choice of five facts, and for each all worlds, found by trying every function on three numbers. */
public final class AllFactsTest {
    private static final int KINDS = 9;
    private static final int CHOICES = KINDS * KINDS * KINDS * KINDS * KINDS;
    /** The ways in which three numbers can be equal: the group of each. */
    private static final int[][] GROUPS = {{0, 1, 2}, {0, 0, 1}, {0, 1, 0}, {0, 1, 1}, {0, 0, 0}};
    /** A function's value at a group is one of the three groups or none of them. */
    private static final int VALUES = 4;

    public static void main(String[] args) {
        Report.part("facts");
        int[] facts = new int[5];
        for (int choice = 0; choice < CHOICES; choice++) {
            int rest = choice;
            for (int k = 0; k < 5; k++) {
                facts[k] = rest % KINDS;
                rest /= KINDS;
            }
            check(facts);
        }
        Report.finish();
    }

    private static void check(int[] facts) {
        RationDesk x = new RationDesk();
        StringBuilder text = new StringBuilder();
        for (int k = 0; k < 5; k++) {
            x.fact(k, facts[k] / 3, facts[k] % 3);
            text.append("fact(").append(k + ", " + facts[k] / 3 + ", " + facts[k] % 3).append("), ");
        }
        boolean[] worlds = findWorlds(facts);
        int count = 0;
        for (int set = 0; set < worlds.length; set++) {
            Report.due(text + "world(" + set + ")", x.world(set), worlds[set]);
            count += worlds[set] ? 1 : 0;
        }
        Report.due(text + "worlds()", x.worlds(), count);
    }

    private static boolean[] findWorlds(int[] facts) {
        boolean[] worlds = new boolean[32];
        int[] value = new int[3];
        for (int[] group : GROUPS) {
            for (int n = 0; n < VALUES * VALUES * VALUES; n++) {
                value[0] = n / (VALUES * VALUES);
                value[1] = n / VALUES % VALUES;
                value[2] = n % VALUES;
                worlds[holding(facts, group, value)] = true;
            }
        }
        return worlds;
    }

    private static int holding(int[] facts, int[] group, int[] value) {
        int set = 0;
        for (int k = 0; k < 5; k++) {
            if (value[group[facts[k] / 3]] == group[facts[k] % 3]) {
                set |= 1 << k;
            }
        }
        return set;
    }
}
