/** Counts answers that are not the ones that are due, and ends a test with exit code 1 if there were any. */
final class Checks {
    private static final int MOST_SHOWN = 40;

    private int asked = 0;
    private int wrong = 0;

    void due(String call, long want, long got) {
        asked++;
        if (got != want) {
            fail(call + " answered " + got + ", due is " + want);
        }
    }

    void isTrue(String what, boolean holds) {
        asked++;
        if (!holds) {
            fail(what);
        }
    }

    boolean allRight() {
        return wrong == 0;
    }

    void finish(String name) {
        System.out.println(name + ": " + asked + " answers, " + wrong + " not as due");
        if (wrong != 0 || asked == 0) {
            System.exit(1);
        }
    }

    private void fail(String message) {
        wrong++;
        if (wrong <= MOST_SHOWN) {
            System.out.println(message);
        }
    }
}
