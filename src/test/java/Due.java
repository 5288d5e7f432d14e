/** Counts the answers of one test that are not as due, and ends the test accordingly. */
final class Due {
    private static final int MOST_PRINTED = 40;
    private final String test;
    private int wrong;
    private int all;

    Due(String test) {
        this.test = test;
    }

    void is(String call, long got, long want) {
        all++;
        if (got == want) return;
        wrong++;
        if (wrong <= MOST_PRINTED) {
            System.out.println(test + ": " + call + " answered " + got + ", due is " + want);
        }
    }

    /** The call was answered 1, and told this fraction. */
    void tells(String call, SightChart x, int got, long upper, long lower) {
        is(call, got, 1);
        is(call + ", upper()", x.upper(), upper);
        is(call + ", lower()", x.lower(), lower);
    }

    /** The call was answered 1, and told this number. */
    void asks(String call, SightChart x, int got, int asked) {
        is(call, got, 1);
        is(call + ", asked()", x.asked(), asked);
    }

    /** The call was answered FINDING, and this one. */
    void finds(String call, SightChart x, int got, int finding) {
        is(call, got, SightChart.FINDING);
        is(call + ", finding()", x.finding(), finding);
    }

    boolean anyWrong() {
        return wrong > 0;
    }

    void end() {
        System.out.println(test + ": " + all + " answers, " + wrong + " not as due");
        if (wrong > 0) System.exit(1);
    }
}
