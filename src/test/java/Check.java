/** Compares answers with those that are due, prints the wrong ones, and ends the test with exit code 1 if there was one. */
final class Check {
    private static final int MOST_PRINTED = 40;

    private final String name;
    private int looked;
    private int wrong;

    Check(String name) {
        this.name = name;
    }

    void is(String call, long got, long due) {
        looked++;
        if (got != due) {
            wrong(call + " answered " + got + ", due is " + due);
        }
    }

    void that(String what, boolean holds) {
        looked++;
        if (!holds) {
            wrong(what);
        }
    }

    /** That nothing is changed by calls that refuse: digest() is what it was. */
    void unchanged(String call, EvenWheel x, long digestBefore) {
        is("digest() behind " + call, x.digest(), digestBefore);
    }

    private void wrong(String what) {
        wrong++;
        if (wrong <= MOST_PRINTED) {
            System.out.println(name + ": " + what);
        }
    }

    int wrongOnes() {
        return wrong;
    }

    void end() {
        System.out.println(name + ": " + looked + " answers looked at, " + wrong + " wrong");
        if (wrong > 0 || looked == 0) {
            System.exit(1);
        }
    }
}
