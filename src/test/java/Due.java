/** Compares answers with those that are due, and ends a test with exit code 1 if one is wrong. */
final class Due {
    private static final int MOST_SHOWN = 40;

    private int wrong = 0;
    private int seen = 0;

    void is(String call, long got, long want) {
        seen++;
        if (got != want) {
            wrong++;
            if (wrong <= MOST_SHOWN) {
                System.out.println(call + " answered " + got + ", due is " + want);
            }
        }
    }

    boolean allRight() {
        return wrong == 0;
    }

    void end() {
        if (wrong != 0) {
            System.out.println(wrong + " of " + seen + " answers are not as due");
            System.exit(1);
        }
        System.out.println("all " + seen + " answers are as due");
    }
}
