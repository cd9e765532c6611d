/** Counts answers that are not the ones that are due, and tells each of them. */
final class Due {
    private static final int MOST_TOLD = 40;
    private int checked = 0;
    private int wrong = 0;

    void is(String call, long got, long want) {
        checked++;
        if (got != want) {
            tell(call + " answered " + got + ", due is " + want);
        }
    }

    void holds(String what, boolean held) {
        checked++;
        if (!held) {
            tell(what);
        }
    }

    private void tell(String fault) {
        wrong++;
        if (wrong <= MOST_TOLD) {
            System.out.println(fault);
        }
    }

    int wrongSoFar() {
        return wrong;
    }

    void end(String test) {
        System.out.println(test + ": " + (checked - wrong) + " passed, " + wrong + " failed");
        if (wrong != 0) {
            System.exit(1);
        }
    }
}
