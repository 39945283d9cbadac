/** Counts the answers of one test program, and prints those that are not the due ones. */
final class Checks {
    private int right;
    private int wrong;

    void due(String what, long got, long want) {
        if (got == want) {
            right++;
        } else {
            wrong++;
            System.out.println(what + " answered " + got + ", due is " + want);
        }
    }

    void that(String what, boolean holds) {
        due(what, holds ? 1 : 0, 1);
    }

    int answers() {
        return right + wrong;
    }

    int wrongSoFar() {
        return wrong;
    }

    /** Ends the program: with exit code 1 if an answer was wrong, or if there was none at all. */
    void end() {
        System.out.println(right + " checks passed, " + wrong + " failed");
        System.exit(wrong == 0 && right > 0 ? 0 : 1);
    }
}
