/** Compares answers with what is due, and ends a test with exit code 1 if one was wrong. */
final class Check {
    private static final int MOST_PRINTED = 50;

    private final String name;
    private int looked;
    private int wrong;

    Check(String name) {
        this.name = name;
    }

    int looked() {
        return looked;
    }

    int wrong() {
        return wrong;
    }

    void due(String call, long got, long want) {
        looked++;
        if (got != want) {
            wrong(call + " answered " + got + ", due is " + want);
        }
    }

    void holds(String claim, boolean itDoes) {
        looked++;
        if (!itDoes) {
            wrong("does not hold: " + claim);
        }
    }

    void wrong(String text) {
        wrong++;
        if (wrong <= MOST_PRINTED) {
            System.out.println(text);
        }
    }

    void end() {
        System.out.println(name + ": " + looked + " looked at, " + wrong + " wrong");
        if (wrong != 0 || looked == 0) {
            System.exit(1);
        }
    }
}
