/** Counts the answers that are not the due ones, and prints them. */
final class Check {
    private int wrong = 0;
    private int seen = 0;

    void due(String call, long got, long want) {
        seen++;
        if (got != want) {
            wrong++;
            System.out.println(call + " answered " + got + ", due is " + want);
        }
    }

    void due(String what, boolean holds) {
        due(what, holds ? 1 : 0, 1);
    }

    void same(String what, String got, String want) {
        seen++;
        if (!got.equals(want)) {
            wrong++;
            System.out.println(what + ": there is " + got + ", due is " + want);
        }
    }

    /** To be called last: ends the program with exit code 1 if an answer was wrong. */
    void finish() {
        System.out.println(seen + " answers, " + wrong + " of them wrong");
        if (wrong != 0 || seen == 0) {
            System.exit(1);
        }
    }
}
