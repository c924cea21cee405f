/** Counts answers that are not as due, and ends a test. */
final class Due {
    private static final int MOST_SHOWN = 40;
    private int asked;
    private int wrong;

    void is(String what, long got, long want) {
        asked++;
        if (got != want) {
            wrong++;
            show(what + " answered " + got + ", due is " + want);
        }
    }

    void holds(String what, boolean so) {
        asked++;
        if (!so) {
            wrong++;
            show(what);
        }
    }

    private void show(String text) {
        if (wrong <= MOST_SHOWN) {
            System.out.println(text);
        }
    }

    void end() {
        System.out.println(asked + " answers, " + wrong + " not as due");
        if (wrong != 0 || asked == 0) {
            System.exit(1);
        }
    }
}
