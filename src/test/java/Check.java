/** Counts the answers that are not as due, and ends a test with exit code 1 if there were any. */
final class Check {
    private int wrong;
    private int looked;
    private String where = "";

    void in(String place) {
        where = place;
    }

    void due(String call, long want, long got) {
        looked++;
        if (want != got) {
            wrong++;
            System.out.println(where + ": " + call + " answered " + got + ", due is " + want);
        }
    }

    void due(String call, boolean want, boolean got) {
        due(call, want ? 1 : 0, got ? 1 : 0);
    }

    int wrong() {
        return wrong;
    }

    int looked() {
        return looked;
    }

    void end(String name) {
        System.out.println(name + ": " + looked + " answers looked at, " + wrong + " wrong");
        if (wrong != 0 || looked == 0) {
            System.exit(1);
        }
    }
}
