/** Promises 1 to 13: the chart. */
public final class ChartTest {
    private static final int NOTHING = 1, BEYOND = 2, UNLIKE = 3, NOUGHT = 4, SIZE = 5;
    private static final Due DUE = new Due("ChartTest");

    public static void main(String[] args) {
        newObject();
        nodes();
        parents();
        sights();
        blinds();
        weighs();
        weighsNoChance();
        weights();
        worths();
        firms();
        tolds();
        marks();
        means();
        meanSights();
        DUE.end();
    }

    private static SightChart chart(int... kindsAndStates) {
        SightChart x = new SightChart();
        for (int i = 0; i + 1 < kindsAndStates.length; i += 2) x.node(kindsAndStates[i], kindsAndStates[i + 1]);
        return x;
    }

    private static void newObject() {
        SightChart x = new SightChart();
        DUE.is("1 count(0)", x.count(0), 0);
        DUE.is("1 count(4)", x.count(4), 1);
        DUE.is("1 asked()", x.asked(), 0);
        DUE.is("1 upper()", x.upper(), 0);
        DUE.is("1 lower()", x.lower(), 1);
        DUE.is("1 finding()", x.finding(), 0);
        for (int f = 1; f <= 5; f++) DUE.is("1 findings", x.findings(f), 0);
        for (int r = 0; r < 4; r++) DUE.finds("1 tear", x, x.tear(r), NOTHING);
        long h = 17;
        for (int r = 0; r < 4; r++) h = 31 * h - 1;
        DUE.is("1 digest()", x.digest(), h);
    }

    private static void nodes() {
        SightChart x = new SightChart();
        int[][] bad = {{-1, 2}, {3, 2}, {4, 2}, {1, 1}, {1, 4}, {2, 1}, {2, 4}, {1, -2}, {2, 0},
            {Integer.MIN_VALUE, 2}, {Integer.MAX_VALUE, 2}, {1, Integer.MAX_VALUE}, {2, Integer.MIN_VALUE}};
        for (int[] b : bad) DUE.is("2 node", x.node(b[0], b[1]), SightChart.BAD);
        DUE.is("2 a WORTH", x.node(0, -7), 0);
        DUE.is("2 a CHANCE", x.node(1, 3), 1);
        DUE.is("2 a CHOICE", x.node(2, 3), 2);
        for (int n = 3; n < 6; n++) DUE.is("2 up to 243", x.node(2, 3), n);
        DUE.is("2 243 WORLDS", x.count(4), 243);
        long before = x.digest();
        DUE.is("2 beyond 243", x.node(1, 2), SightChart.SPENT);
        DUE.is("2 beyond 243", x.node(2, 3), SightChart.SPENT);
        DUE.is("2 BAD ahead of SPENT", x.node(2, 4), SightChart.BAD);
        DUE.is("2 nothing changed", x.digest(), before);
        for (int n = 6; n < 10; n++) DUE.is("2 up to 10", x.node(0, 0), n);
        before = x.digest();
        DUE.is("2 FULL", x.node(0, 0), SightChart.FULL);
        DUE.is("2 FULL ahead of SPENT", x.node(1, 2), SightChart.FULL);
        DUE.is("2 BAD ahead of FULL", x.node(3, 2), SightChart.BAD);
        DUE.is("2 nothing changed", x.digest(), before);
        DUE.is("2 no FINDING", x.finding(), 0);

        SightChart y = chart(1, 2, 1, 2, 2, 2, 2, 2, 1, 2, 1, 2, 1, 2);
        DUE.is("2 128 WORLDS", y.count(4), 128);
        DUE.is("2 256", y.node(1, 2), SightChart.SPENT);
        DUE.is("2 seven NODES", y.count(0), 7);
    }

    private static void parents() {
        SightChart x = chart(1, 2, 2, 3, 1, 2, 1, 3, 0, 0, 2, 2, 0, 0);
        int[][] bad = {{-1, 0}, {7, 0}, {2, -1}, {2, 7}, {2, 2}, {2, 3}, {0, 0}, {6, 4}, {5, 4}, {0, 1},
            {Integer.MIN_VALUE, 0}, {Integer.MAX_VALUE, 0}, {2, Integer.MIN_VALUE}, {2, Integer.MAX_VALUE}};
        long before = x.digest();
        for (int[] b : bad) DUE.is("3 parent(" + b[0] + ", " + b[1] + ")", x.parent(b[0], b[1]), SightChart.BAD);
        DUE.finds("3 of a CHOICE", x, x.parent(5, 0), UNLIKE);
        DUE.is("3 nothing changed", x.digest(), before);
        DUE.is("3 first", x.parent(3, 1), 1);
        DUE.is("3 twice", x.parent(3, 1), SightChart.BAD);
        DUE.is("3 three rows", x.told(3, 4), 3);
        DUE.is("3 weigh", x.weigh(3, 2, 1, 2), 1);
        DUE.is("3 second", x.parent(3, 0), 2);
        DUE.is("3 six rows", x.told(3, 4), 6);
        for (int r = 0; r < 6; r++) {
            for (int s = 0; s < 3; s++) DUE.is("3 as at first", x.weight(3, r, s), s == 0 ? 12 : 0);
        }
        DUE.is("3 a CHANCE is full", x.parent(3, 2), SightChart.FULL);
        DUE.is("3 twice, ahead of FULL", x.parent(3, 0), SightChart.BAD);
        DUE.is("3 worth 1", x.parent(6, 3), 1);
        x.worth(6, 2, 44);
        DUE.is("3 worth 2", x.parent(6, 1), 2);
        DUE.asks("3 as at first", x, x.worth(6, 2, 0), 0);
        DUE.is("3 worth 3", x.parent(6, 5), 3);
        DUE.is("3 18 places", x.told(6, 4), 18);
        DUE.is("3 a WORTH is full", x.parent(6, 0), SightChart.FULL);
        DUE.is("3 a WORTH as PARENT, ahead of FULL", x.parent(6, 4), SightChart.BAD);
        x.firm(1, 2);
        DUE.is("3 a FIRM one as PARENT", x.parent(2, 1), 1);
        DUE.finds("3 of a FIRM one", x, x.parent(5, 2), UNLIKE);
        x.firm(5, 0);
        DUE.finds("3 of a FIRM one", x, x.parent(5, 2), UNLIKE);
        placesByParents();
    }

    /** The first PARENT's STATE counts least. */
    private static void placesByParents() {
        SightChart x = chart(2, 2, 2, 3, 0, 0);
        x.parent(2, 1);
        x.parent(2, 0);
        for (int p = 0; p < 6; p++) x.worth(2, p, 10 * p);
        for (int first = 0; first < 3; first++) {
            for (int second = 0; second < 2; second++) {
                x.firm(1, first);
                x.firm(0, second);
                DUE.tells("3 place", x, x.best(), 10L * (first + 3 * second), 1);
            }
        }
    }

    private static void sights() {
        SightChart x = chart(1, 2, 2, 2, 1, 2, 0, 0, 2, 3, 1, 2);
        int[][] bad = {{-1, 0}, {6, 0}, {4, -1}, {4, 6}, {4, 5}, {1, 2}, {1, 1}, {4, 4}, {0, 0}, {0, 5},
            {Integer.MAX_VALUE, 0}, {Integer.MIN_VALUE, 0}, {4, Integer.MAX_VALUE}, {4, Integer.MIN_VALUE}};
        long before = x.digest();
        for (int[] b : bad) {
            DUE.is("4 sight(" + b[0] + ", " + b[1] + ")", x.sight(b[0], b[1]), SightChart.BAD);
            DUE.is("18 worthOf(" + b[0] + ", " + b[1] + ")", x.worthOf(b[0], b[1]), SightChart.BAD);
        }
        int[][] unlike = {{2, 0}, {3, 2}, {4, 1}, {4, 3}, {2, 1}};
        for (int[] u : unlike) {
            DUE.finds("4 sight(" + u[0] + ", " + u[1] + ")", x, x.sight(u[0], u[1]), UNLIKE);
            DUE.finds("18 worthOf(" + u[0] + ", " + u[1] + ")", x, x.worthOf(u[0], u[1]), UNLIKE);
        }
        DUE.is("4 nothing changed", x.digest(), before);
        DUE.is("4 first", x.sight(4, 2), 1);
        DUE.is("4 second", x.sight(4, 0), 2);
        DUE.is("4 of another one", x.sight(1, 0), 1);
        int times = x.findings(UNLIKE);
        DUE.is("4 it does already", x.sight(4, 2), SightChart.STATE);
        DUE.is("18 it does already", x.worthOf(4, 2), SightChart.STATE);
        DUE.is("4 no FINDING", x.findings(UNLIKE), times);
        x.blind(1, 0);
        x.firm(1, 1);
        DUE.is("4 of a FIRM one", x.sight(1, 0), 1);
    }

    private static void blinds() {
        SightChart x = chart(1, 2, 1, 2, 2, 2, 0, 0, 1, 2);
        x.sight(2, 0);
        x.sight(2, 1);
        int[][] bad = {{-1, 0}, {5, 0}, {2, -1}, {2, 5}, {Integer.MAX_VALUE, 0}, {2, Integer.MIN_VALUE}};
        long before = x.digest();
        for (int[] b : bad) {
            DUE.is("5 blind", x.blind(b[0], b[1]), SightChart.BAD);
            DUE.is("21 needless", x.needless(b[0], b[1]), SightChart.BAD);
        }
        for (int u : new int[] {0, 3, 4}) {
            DUE.finds("5 blind", x, x.blind(u, 0), UNLIKE);
            DUE.finds("21 needless", x, x.needless(u, 0), UNLIKE);
        }
        for (int n : new int[] {2, 3, 4}) {
            DUE.is("5 not seen", x.blind(2, n), SightChart.STATE);
            DUE.is("21 not seen", x.needless(2, n), SightChart.STATE);
        }
        DUE.is("5 nothing changed", x.digest(), before);
        DUE.is("5 one left", x.blind(2, 0), 1);
        DUE.is("5 it sees that no more", x.blind(2, 0), SightChart.STATE);
        x.firm(2, 0);
        DUE.is("5 of a FIRM one", x.blind(2, 1), 0);
        DUE.is("5 told()", x.told(2, 3), 0);
    }

    private static void weighs() {
        SightChart x = chart(1, 2, 1, 3, 2, 3, 0, 0);
        x.parent(1, 0);
        int[][] bad2 = {{11, 0}, {0, 0}, {13, -1}, {-1, 13}, {12, 12}, {6, 7}, {6, 5}, {Integer.MAX_VALUE, 1},
            {Integer.MAX_VALUE, Integer.MAX_VALUE}, {Integer.MIN_VALUE, Integer.MIN_VALUE}, {Integer.MIN_VALUE, 12}};
        long before = x.digest();
        for (int[] b : bad2) DUE.is("6 two STATES", x.weigh(0, 0, b[0], b[1]), SightChart.BAD);
        int[][] bad3 = {{13, 0}, {0, 13}, {7, 6}, {-1, 0}, {0, -1}, {13, -1}, {Integer.MAX_VALUE, Integer.MAX_VALUE}};
        for (int[] b : bad3) {
            DUE.is("6 three STATES", x.weigh(1, 0, b[0], b[1]), SightChart.BAD);
            DUE.is("6 BAD ahead of BEYOND", x.weigh(1, 2, b[0], b[1]), SightChart.BAD);
            DUE.is("6 BAD ahead of UNLIKE", x.weigh(3, 0, b[0], b[1]), SightChart.BAD);
            DUE.is("6 BAD ahead of UNLIKE", x.weigh(2, 0, b[0], b[1]), SightChart.BAD);
        }
        for (int n : new int[] {-1, 4, Integer.MAX_VALUE, Integer.MIN_VALUE}) {
            DUE.is("6 no NODE", x.weigh(n, 0, 12, 0), SightChart.BAD);
        }
        DUE.finds("6 a CHOICE", x, x.weigh(2, 0, 12, 0), UNLIKE);
        DUE.finds("6 a WORTH", x, x.weigh(3, 9, 1, 1), UNLIKE);
        for (int r : new int[] {-1, 2, Integer.MAX_VALUE, Integer.MIN_VALUE}) {
            DUE.finds("6 no row", x, x.weigh(1, r, 3, 4), BEYOND);
        }
        DUE.is("6 nothing changed", x.digest(), before);
        DUE.is("6 all on the last", x.weigh(1, 0, 0, 0), 1);
        DUE.is("6 the rest", x.weight(1, 0, 2), 12);
        DUE.is("6 nothing left", x.weigh(1, 1, 5, 7), 1);
        DUE.is("6 no rest", x.weight(1, 1, 2), 0);
        DUE.is("6 one row alone", x.weight(1, 0, 1), 0);
        DUE.is("6 two STATES", x.weigh(0, 0, 0, 12), 1);
        DUE.is("6 STATE 1", x.weight(0, 0, 1), 12);
        DUE.is("6 STATE 0", x.weight(0, 0, 0), 0);
    }

    /** That nothing may be left of 12 with 2 STATES is told of CHANCES alone. */
    private static void weighsNoChance() {
        SightChart x = chart(0, 0, 2, 2, 2, 3, 2, 2);
        x.firm(3, 1);
        long before = x.digest();
        int[][] good = {{0, 0}, {11, 0}, {0, 11}, {6, 5}, {6, 6}, {12, 0}, {0, 12}};
        int[][] bad = {{13, 0}, {0, 13}, {7, 6}, {12, 1}, {-1, 0}, {0, -1}, {-1, 13}, {13, -1},
            {Integer.MAX_VALUE, 1}, {Integer.MIN_VALUE, Integer.MIN_VALUE}};
        for (int n = 0; n < 4; n++) {
            for (int r : new int[] {-1, 0, 1, Integer.MAX_VALUE}) {
                for (int[] g : good) DUE.finds("6 no CHANCE", x, x.weigh(n, r, g[0], g[1]), UNLIKE);
                for (int[] b : bad) DUE.is("6 BAD ahead of UNLIKE", x.weigh(n, r, b[0], b[1]), SightChart.BAD);
            }
        }
        DUE.is("6 how often UNLIKE", x.findings(UNLIKE), 4 * 4 * good.length);
        DUE.is("6 nothing changed", x.digest(), before);
    }

    private static void weights() {
        SightChart x = chart(1, 2, 1, 3, 2, 2, 0, 0);
        x.parent(1, 0);
        x.weigh(1, 1, 2, 3);
        DUE.is("7 STATE 0", x.weight(1, 1, 0), 2);
        DUE.is("7 STATE 1", x.weight(1, 1, 1), 3);
        DUE.is("7 STATE 2", x.weight(1, 1, 2), 7);
        DUE.is("7 at first", x.weight(1, 0, 0), 12);
        for (int n : new int[] {-1, 4, Integer.MAX_VALUE, Integer.MIN_VALUE}) {
            DUE.is("7 no NODE", x.weight(n, 9, 9), SightChart.BAD);
        }
        DUE.finds("7 a CHOICE", x, x.weight(2, 0, 0), UNLIKE);
        DUE.finds("7 a WORTH", x, x.weight(3, 9, 9), UNLIKE);
        int[][] beyond = {{-1, 0}, {2, 0}, {0, -1}, {0, 3}, {Integer.MAX_VALUE, 0}, {0, Integer.MIN_VALUE}};
        for (int[] b : beyond) DUE.finds("7 beyond", x, x.weight(1, b[0], b[1]), BEYOND);
        DUE.finds("7 two STATES", x, x.weight(0, 0, 2), BEYOND);
    }

    private static void worths() {
        SightChart x = chart(1, 2, 2, 3, 0, 0);
        x.parent(2, 1);
        DUE.asks("8 at first", x, x.worth(2, 2, -100), 0);
        DUE.asks("8 then", x, x.worth(2, 2, 100), -100);
        DUE.asks("8 another one", x, x.worth(2, 1, 7), 0);
        long before = x.digest();
        int[][] bad = {{-1, 0, 0}, {3, 0, 0}, {2, 0, 101}, {2, 0, -101}, {2, 9, 101}, {0, 0, 101},
            {2, 0, Integer.MAX_VALUE}, {2, 0, Integer.MIN_VALUE}, {Integer.MIN_VALUE, 0, 0}};
        for (int[] b : bad) DUE.is("8 worth", x.worth(b[0], b[1], b[2]), SightChart.BAD);
        DUE.finds("8 a CHANCE", x, x.worth(0, 0, 1), UNLIKE);
        DUE.finds("8 a CHOICE", x, x.worth(1, 9, 1), UNLIKE);
        for (int p : new int[] {-1, 3, Integer.MAX_VALUE, Integer.MIN_VALUE}) {
            DUE.finds("8 no place", x, x.worth(2, p, 1), BEYOND);
        }
        DUE.is("8 nothing changed", x.digest(), before);
        DUE.is("8 asked() as before", x.asked(), 0);
        DUE.asks("8 it stands", x, x.worth(2, 2, 0), 100);
    }

    private static void firms() {
        SightChart x = chart(2, 2, 1, 2, 0, 0, 2, 3);
        DUE.is("9 it was not", x.firm(0, 1), SightChart.NONE);
        DUE.is("9 KIND", x.told(0, 0), 3);
        DUE.is("9 it was", x.firm(0, 0), 1);
        long before = x.digest();
        for (int n : new int[] {-1, 4, Integer.MAX_VALUE, Integer.MIN_VALUE}) {
            DUE.is("9 no NODE", x.firm(n, 0), SightChart.BAD);
        }
        DUE.finds("9 a CHANCE", x, x.firm(1, 0), UNLIKE);
        DUE.finds("9 a WORTH", x, x.firm(2, 9), UNLIKE);
        DUE.finds("9 a CHANCE, no more", x, x.firm(1, SightChart.NONE), UNLIKE);
        for (int s : new int[] {-1, 2, -8, -10, Integer.MAX_VALUE, Integer.MIN_VALUE}) {
            DUE.finds("9 no STATE", x, x.firm(0, s), BEYOND);
        }
        DUE.is("9 nothing changed", x.digest(), before);
        DUE.is("9 no more", x.firm(0, SightChart.NONE), 0);
        DUE.is("9 no more again", x.firm(0, SightChart.NONE), SightChart.NONE);
        DUE.is("9 KIND", x.told(0, 0), 2);
        DUE.is("9 three STATES", x.firm(3, 2), SightChart.NONE);
        DUE.is("9 it was in 2", x.firm(3, 2), 2);
    }

    private static void tolds() {
        SightChart x = chart(1, 3, 2, 2, 1, 2, 0, 5, 2, 3);
        x.parent(2, 0);
        x.parent(2, 1);
        x.parent(3, 2);
        x.sight(4, 0);
        x.sight(4, 2);
        x.firm(4, 0);
        int[][] want = {{1, 3, 0, 0, 1}, {2, 2, 0, 0, 0}, {1, 2, 2, 0, 6}, {0, 0, 1, 0, 2}, {3, 3, 0, 2, 0}};
        for (int n = 0; n < 5; n++) {
            for (int what = 0; what < 5; what++) {
                DUE.is("10 told(" + n + ", " + what + ")", x.told(n, what), want[n][what]);
            }
            for (int what : new int[] {-1, 5, Integer.MAX_VALUE, Integer.MIN_VALUE}) {
                DUE.is("10 what", x.told(n, what), SightChart.BAD);
            }
        }
        for (int n : new int[] {-1, 5, Integer.MAX_VALUE, Integer.MIN_VALUE}) {
            DUE.is("10 no NODE", x.told(n, 0), SightChart.BAD);
        }
    }

    private static void marks() {
        SightChart x = chart(1, 2, 2, 2, 1, 2, 2, 3, 0, 0, 0, 0);
        DUE.is("11 seen by none", x.mark(0, 1), 0);
        x.sight(1, 0);
        x.sight(3, 0);
        x.sight(3, 2);
        DUE.is("11 seen by two", x.mark(0, 1), 2);
        DUE.is("11 seen by one", x.mark(2, 1), 1);
        x.parent(2, 1);
        x.parent(4, 1);
        x.parent(5, 1);
        x.parent(5, 0);
        DUE.is("11 a CHOICE", x.mark(1, 2), 3);
        DUE.is("11 a CHOICE of none", x.mark(3, 2), 0);
        DUE.finds("11 not FIRM", x, x.mark(3, 3), UNLIKE);
        x.firm(3, 2);
        x.firm(1, 0);
        DUE.is("11 FIRM", x.mark(3, 3), 2);
        DUE.is("11 a FIRM one is a CHOICE", x.mark(1, 2), 3);
        DUE.is("11 seen by FIRM ones, too", x.mark(0, 1), 2);
        int[][] unlike = {{0, 2}, {0, 3}, {1, 1}, {4, 1}, {4, 2}, {4, 3}};
        for (int[] u : unlike) DUE.finds("11 mark(" + u[0] + ", " + u[1] + ")", x, x.mark(u[0], u[1]), UNLIKE);
        int[][] bad = {{4, 0}, {0, 0}, {1, 0}, {0, 4}, {0, -1}, {-1, 1}, {6, 1}, {0, Integer.MAX_VALUE},
            {Integer.MIN_VALUE, 1}, {Integer.MAX_VALUE, 1}};
        for (int[] b : bad) DUE.is("11 mark(" + b[0] + ", " + b[1] + ")", x.mark(b[0], b[1]), SightChart.BAD);
    }

    private static void means() {
        SightChart x = chart(2, 3, 0, 0, 1, 2);
        x.worth(1, 0, -77);
        DUE.asks("12 one place", x, x.mean(1), -77);
        x.parent(1, 0);
        DUE.asks("12 as at first", x, x.mean(1), 0);
        x.worth(1, 0, -5);
        DUE.asks("12 cut up", x, x.mean(1), -1);
        x.worth(1, 1, 10);
        DUE.asks("12 cut down", x, x.mean(1), 1);
        x.worth(1, 2, 100);
        DUE.asks("12 mean", x, x.mean(1), 35);
        DUE.finds("12 a CHOICE", x, x.mean(0), UNLIKE);
        DUE.finds("12 a CHANCE", x, x.mean(2), UNLIKE);
        for (int n : new int[] {-1, 3, Integer.MAX_VALUE, Integer.MIN_VALUE}) {
            DUE.is("12 no NODE", x.mean(n), SightChart.BAD);
        }
        DUE.is("12 asked() as before", x.asked(), 35);
    }

    private static void meanSights() {
        SightChart x = chart(1, 2, 1, 2, 0, 0);
        DUE.finds("13 no CHOICES", x, x.meanSights(), NOUGHT);
        DUE.is("13 findings", x.findings(NOUGHT), 1);
        x.node(2, 2);
        DUE.is("13 none", x.meanSights(), 0);
        x.sight(3, 0);
        x.sight(3, 1);
        DUE.is("13 two", x.meanSights(), 2);
        x.node(2, 2);
        x.sight(4, 1);
        DUE.is("13 three of two", x.meanSights(), 1);
        x.firm(3, 0);
        DUE.is("13 FIRM ones, too", x.meanSights(), 1);
        x.sight(4, 0);
        DUE.is("13 four of two", x.meanSights(), 2);
        DUE.is("13 asked() is not told", x.asked(), 0);
        DUE.is("13 SIZE never", x.findings(SIZE), 0);
    }
}
