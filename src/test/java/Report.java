/** Counts the answers that are not as due; the main method of each test ends with finish. */
final class Report {
    private static final int SHOWN = 40;
    private static int wrong = 0;
    private static String part = "";

    private Report() {
    }

    /** Names what the next answers are about, in the document's words. */
    static void part(String name) {
        part = name;
    }

    static void wrong(String what) {
        wrong++;
        if (wrong <= SHOWN) {
            System.out.println(part + ": " + what);
        }
    }

    static void due(String call, long got, long want) {
        if (got != want) {
            wrong(call + " answered " + got + ", due is " + want);
        }
    }

    static void due(String call, boolean got, boolean want) {
        due(call, got ? 1 : 0, want ? 1 : 0);
    }

    /** The answer of most and what top says after it. */
    static void dueMost(RationDesk x, int a, int b, int c, int code, long over, long under) {
        String call = "most(" + a + ", " + b + ", " + c + ")";
        due(call, x.most(a, b, c), code);
        due(call + ", top(0)", x.top(0), over);
        due(call + ", top(1)", x.top(1), under);
    }

    static void finish() {
        System.out.println(wrong == 0 ? "all answers are as due" : wrong + " answers are not as due");
        if (wrong != 0) {
            System.exit(1);
        }
    }
}
