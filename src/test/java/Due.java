/** Counts answers that are not the due ones, and tells each. */
final class Due {
    private final String test;
    private int asked = 0;
    private int wrong = 0;

    Due(String test) {
        this.test = test;
    }

    void same(String call, long got, long want) {
        asked++;
        if (got != want) {
            wrong++;
            System.out.println(test + ": " + call + " answered " + got + ", due is " + want);
        }
    }

    void holds(String what, boolean isSo) {
        same(what, isSo ? 1 : 0, 1);
    }

    /** Whether something was asked, and all answers were due. */
    boolean isRight() {
        if (asked == 0) {
            System.out.println(test + ": nothing was asked");
        }
        return asked > 0 && wrong == 0;
    }

    void end() {
        System.out.println(test + ": " + asked + " asked, " + wrong + " wrong");
        if (!isRight()) {
            System.exit(1);
        }
    }
}
