import java.util.function.Supplier;
import java.util.function.ToIntFunction;

/** Counts the answers of one test that are not as due, and ends the test accordingly. */
final class Due {
    private static final int MOST_PRINTED = 40;
    private static final String[] TOLD = {"finding()", "findings(1)", "findings(2)", "findings(3)", "findings(4)",
        "findings(5)", "digest()", "asked()", "upper()", "lower()", "count(0)", "count(1)", "count(2)", "count(3)",
        "count(4)"};
    private final String test;
    private int wrong;
    private int all;

    Due(String test) {
        this.test = test;
    }

    void is(String call, long got, long want) {
        all++;
        if (got == want) return;
        wrong++;
        if (wrong <= MOST_PRINTED) {
            System.out.println(test + ": " + call + " answered " + got + ", due is " + want);
        }
    }

    /** The call was answered 1, and told this fraction. */
    void tells(String call, SightChart x, int got, long upper, long lower) {
        is(call, got, 1);
        is(call + ", upper()", x.upper(), upper);
        is(call + ", lower()", x.lower(), lower);
    }

    /** The call was answered 1, and told this number. */
    void asks(String call, SightChart x, int got, int asked) {
        is(call, got, 1);
        is(call + ", asked()", x.asked(), asked);
    }

    /** The call was answered FINDING, and this one. */
    void finds(String call, SightChart x, int got, int finding) {
        is(call, got, SightChart.FINDING);
        is(call + ", finding()", x.finding(), finding);
    }

    /** On a new chart: the call is refused so, and nothing changes, finding() and findings() either. */
    void refuses(int answer, String call, Supplier<SightChart> chart, ToIntFunction<SightChart> asked) {
        SightChart x = chart.get();
        long[] before = told(x);
        is(call, asked.applyAsInt(x), answer);
        same(call, told(x), before);
    }

    /** On a new chart: the call is answered this FINDING, once, and nothing but that changes. */
    void refusesAs(int finding, String call, Supplier<SightChart> chart, ToIntFunction<SightChart> asked) {
        SightChart x = chart.get();
        long[] then = told(x);
        then[0] = finding;
        then[finding]++;
        is(call, asked.applyAsInt(x), SightChart.FINDING);
        same(call, told(x), then);
    }

    private void same(String call, long[] got, long[] want) {
        for (int i = 0; i < want.length; i++) is(call + ", then " + TOLD[i], got[i], want[i]);
    }

    private static long[] told(SightChart x) {
        return new long[] {x.finding(), x.findings(1), x.findings(2), x.findings(3), x.findings(4), x.findings(5),
            x.digest(), x.asked(), x.upper(), x.lower(), x.count(0), x.count(1), x.count(2), x.count(3), x.count(4)};
    }

    boolean anyWrong() {
        return wrong > 0;
    }

    int answers() {
        return all;
    }

    void end() {
        System.out.println(test + ": " + all + " answers, " + wrong + " not as due");
        if (wrong > 0) System.exit(1);
    }
}
