/** Counts checks, prints those that fail, and ends a test with exit code 1 if one did. */
final class Checks {
    private int right;
    private int wrong;

    void due(String what, long got, long want) {
        if (got == want) {
            right++;
            return;
        }
        wrong++;
        if (wrong <= 40) {
            System.out.println(what + " answered " + got + ", due is " + want);
        }
    }

    void holds(String what, boolean held) {
        due(what, held ? 1 : 0, 1);
    }

    boolean anyWrong() {
        return wrong > 0;
    }

    void close() {
        System.out.println(right + " checks held, " + wrong + " did not");
        if (wrong > 0 || right == 0) {
            System.exit(1);
        }
    }
}
