/** Promises 25 to 36: rows, what is told. */
public final class RowsTest {
    private static final int NOTHING = 1, BEYOND = 2, UNLIKE = 3, NOUGHT = 4, SIZE = 5;
    private static final int[] NO_ROW = {-1, 4, Integer.MAX_VALUE, Integer.MIN_VALUE};
    private static final Due DUE = new Due("RowsTest");

    public static void main(String[] args) {
        rows();
        lays();
        tears();
        copies();
        copiesRefused();
        fills();
        asked();
        fractions();
        counts();
        findings();
        digests();
        DUE.end();
    }

    /** What a place holds; the call leaves it as it was. */
    private static int at(SightChart x, int r, int i) {
        x.lay(r, i, 0);
        int v = x.asked();
        x.lay(r, i, v);
        return v;
    }

    private static SightChart withRow(int... places) {
        SightChart x = new SightChart();
        x.row(0, places.length);
        for (int i = 0; i < places.length; i++) x.lay(0, i, places[i]);
        return x;
    }

    private static void places(String call, SightChart x, int r, int... want) {
        for (int i = 0; i < want.length; i++) DUE.is(call + ", place " + i, at(x, r, i), want[i]);
        DUE.finds(call + ", no more", x, x.lay(r, want.length, 1), BEYOND);
    }

    private static void rows() {
        SightChart x = new SightChart();
        for (int r : NO_ROW) {
            DUE.is("25 no ROW", x.row(r, 1), SightChart.BAD);
            DUE.is("25 BAD ahead of SIZE", x.row(r, -1), SightChart.BAD);
        }
        DUE.is("25 above 27", x.row(0, 28), SightChart.BAD);
        DUE.is("25 above 27", x.row(0, Integer.MAX_VALUE), SightChart.BAD);
        DUE.finds("25 below 0", x, x.row(0, -1), SIZE);
        DUE.finds("25 below 0", x, x.row(0, Integer.MIN_VALUE), SIZE);
        DUE.finds("25 still missing", x, x.tear(0), NOTHING);
        DUE.is("25 none", x.row(0, 0), 0);
        places("25 none", x, 0);
        DUE.is("25 27", x.row(3, 27), 27);
        places("25 27", x, 3, new int[27]);
        x.lay(3, 1, 5);
        DUE.finds("25 refused", x, x.row(3, -1), SIZE);
        DUE.is("25 as before", at(x, 3, 1), 5);
        DUE.is("25 anew", x.row(3, 2), 2);
        places("25 anew", x, 3, 0, 0);
    }

    private static void lays() {
        SightChart x = new SightChart();
        for (int r : NO_ROW) DUE.is("26 no ROW", x.lay(r, 0, 1), SightChart.BAD);
        DUE.finds("26 missing", x, x.lay(0, 0, 1), NOTHING);
        x.row(0, 3);
        DUE.asks("26 first", x, x.lay(0, 2, Integer.MIN_VALUE), 0);
        DUE.asks("26 then", x, x.lay(0, 2, 9), Integer.MIN_VALUE);
        for (int i : new int[] {-1, 3, 26, 27, Integer.MAX_VALUE, Integer.MIN_VALUE}) {
            DUE.finds("26 beyond", x, x.lay(0, i, 1), BEYOND);
        }
        DUE.is("26 asked() as before", x.asked(), Integer.MIN_VALUE);
        places("26 one alone", x, 0, 0, 0, 9);
    }

    private static void tears() {
        SightChart x = withRow(1, 2);
        for (int r : NO_ROW) DUE.is("27 no ROW", x.tear(r), SightChart.BAD);
        DUE.finds("27 missing", x, x.tear(1), NOTHING);
        DUE.is("27 torn", x.tear(0), 1);
        DUE.finds("27 again", x, x.tear(0), NOTHING);
        DUE.finds("27 lay", x, x.lay(0, 0, 1), NOTHING);
        x.row(0, 2);
        places("27 anew", x, 0, 0, 0);
    }

    private static void copies() {
        SightChart x = withRow(1, 2, 3, 4, 5);
        DUE.is("28 up", x.copy(0, 0, 0, 1, 4), 1);
        places("28 up", x, 0, 1, 1, 2, 3, 4);
        DUE.is("28 down", x.copy(0, 2, 0, 0, 3), 1);
        places("28 down", x, 0, 2, 3, 4, 3, 4);
        x.row(1, 3);
        DUE.is("28 another one", x.copy(0, 3, 1, 1, 2), 1);
        places("28 another one", x, 1, 0, 3, 4);
        DUE.is("28 none", x.copy(0, 5, 1, 3, 0), 1);
        DUE.is("28 all", x.copy(1, 0, 0, 2, 3), 1);
        places("28 all", x, 0, 2, 3, 0, 3, 4);
    }

    private static void copiesRefused() {
        SightChart x = withRow(1, 2, 3);
        x.row(1, 2);
        long before = x.digest();
        for (int r : NO_ROW) {
            DUE.is("28 no ROW", x.copy(r, 0, 0, 0, 1), SightChart.BAD);
            DUE.is("28 no ROW", x.copy(0, 0, r, 0, -1), SightChart.BAD);
        }
        DUE.finds("28 below 0", x, x.copy(0, 0, 1, 0, -1), SIZE);
        DUE.finds("28 SIZE ahead of NOTHING", x, x.copy(2, 0, 3, 0, Integer.MIN_VALUE), SIZE);
        DUE.finds("28 missing", x, x.copy(2, 0, 0, 0, 0), NOTHING);
        DUE.finds("28 missing", x, x.copy(0, 9, 2, 0, 1), NOTHING);
        int[][] beyond = {{-1, 0, 1}, {0, -1, 1}, {-1, 0, 0}, {0, -1, 0}, {4, 0, 0}, {0, 3, 0}, {0, 0, 3}, {3, 0, 1},
            {2, 0, 2}, {0, 1, 2}, {0, 0, Integer.MAX_VALUE}, {Integer.MAX_VALUE, 0, 1}, {0, Integer.MAX_VALUE, 1},
            {Integer.MAX_VALUE, Integer.MAX_VALUE, Integer.MAX_VALUE}, {Integer.MIN_VALUE, 0, Integer.MAX_VALUE}};
        for (int[] b : beyond) {
            DUE.finds("28 beyond " + b[0] + ", " + b[1] + ", " + b[2], x, x.copy(0, b[0], 1, b[1], b[2]), BEYOND);
        }
        DUE.is("28 nothing changed", x.digest(), before);
    }

    private static void fills() {
        SightChart x = withRow(101, -101, Integer.MAX_VALUE, Integer.MIN_VALUE, 7);
        x.node(2, 3);
        x.node(0, 0);
        x.parent(1, 0);
        x.node(1, 2);
        long before = x.digest();
        for (int n : new int[] {-1, 3, Integer.MAX_VALUE, Integer.MIN_VALUE}) {
            DUE.is("29 no NODE", x.fill(n, 0), SightChart.BAD);
        }
        for (int r : NO_ROW) DUE.is("29 no ROW", x.fill(1, r), SightChart.BAD);
        DUE.is("29 BAD ahead of UNLIKE", x.fill(0, 4), SightChart.BAD);
        DUE.finds("29 a CHOICE", x, x.fill(0, 1), UNLIKE);
        DUE.finds("29 a CHANCE", x, x.fill(2, 0), UNLIKE);
        DUE.finds("29 missing", x, x.fill(1, 1), NOTHING);
        DUE.is("29 nothing changed", x.digest(), before);
        int told = x.asked();
        DUE.is("29 the TABLE is shorter", x.fill(1, 0), 3);
        DUE.is("29 asked() is not told", x.asked(), told);
        for (int p = 0; p < 3; p++) DUE.asks("29 the nearest", x, x.worth(1, p, p), p == 1 ? -100 : 100);
        x.row(2, 2);
        x.lay(2, 1, -100);
        DUE.is("29 the ROW is shorter", x.fill(1, 2), 2);
        DUE.asks("29 place 0", x, x.worth(1, 0, 0), 0);
        DUE.asks("29 place 1", x, x.worth(1, 1, 0), -100);
        DUE.asks("29 the rest stays", x, x.worth(1, 2, 0), 2);
        x.row(2, 0);
        DUE.is("29 none", x.fill(1, 2), 0);
        places("29 the ROW stays", x, 0, 101, -101, Integer.MAX_VALUE, Integer.MIN_VALUE, 7);
    }

    private static void asked() {
        SightChart x = withRow(6);
        x.lay(0, 0, 4);
        DUE.is("30 lay()", x.asked(), 6);
        x.node(2, 2);
        x.node(0, 0);
        x.worth(1, 0, 50);
        DUE.is("30 worth()", x.asked(), 0);
        x.mean(1);
        DUE.is("30 mean()", x.asked(), 50);
        x.span(1, 0, false);
        DUE.is("30 span()", x.asked(), -100);
        x.end(true);
        DUE.is("30 end()", x.asked(), 50);
        x.best();
        x.lay(0, 1, 1);
        x.mean(0);
        x.worth(1, 1, 1);
        x.worth(1, 0, 101);
        x.span(1, 1, true);
        x.count(4);
        DUE.is("30 not what is refused", x.asked(), 50);
    }

    private static void fractions() {
        SightChart x = new SightChart();
        x.node(1, 2);
        x.weigh(0, 0, 8, 4);
        x.node(0, 0);
        x.parent(1, 0);
        x.worth(1, 0, -10);
        DUE.tells("31 in lowest terms, below 0", x, x.best(), -20, 3);
        DUE.tells("32 a whole number", x, x.chance(0, 0), 2, 3);
        x.worth(1, 0, -9);
        DUE.tells("32 a whole number", x, x.best(), -6, 1);
        DUE.tells("32 0 by 1", x, x.knowing(), 0, 1);
    }

    private static void counts() {
        SightChart x = new SightChart();
        for (int what = 0; what < 5; what++) DUE.is("33 at first", x.count(what), what == 4 ? 1 : 0);
        x.node(0, 0);
        DUE.is("33 1 without any", x.count(4), 1);
        x.node(1, 3);
        x.node(2, 2);
        x.node(2, 2);
        x.node(0, 0);
        x.node(0, 0);
        x.firm(2, 1);
        int[] want = {6, 1, 2, 3, 12};
        for (int what = 0; what < 5; what++) DUE.is("33 count(" + what + ")", x.count(what), want[what]);
        for (int what : new int[] {-1, 5, Integer.MAX_VALUE, Integer.MIN_VALUE}) {
            DUE.is("33 what", x.count(what), SightChart.BAD);
        }
    }

    private static void findings() {
        SightChart x = new SightChart();
        int[] want = {0, 0, 0, 0, 0, 0};
        int[] order = {SIZE, NOUGHT, NOTHING, UNLIKE, BEYOND, NOUGHT, UNLIKE, UNLIKE, NOTHING, NOTHING, NOTHING};
        x.node(0, 0);
        for (int f : order) {
            int got = f == NOTHING ? x.tear(2) : f == BEYOND ? x.worth(0, 1, 0) : f == UNLIKE ? x.inHand(0)
                : f == NOUGHT ? x.meanSights() : x.row(0, -3);
            DUE.finds("34", x, got, f);
            want[f]++;
            x.tear(4);
            x.best();
            x.span(0, 0, true);
            DUE.is("34 the latest one", x.finding(), f);
            for (int g = 1; g <= 5; g++) DUE.is("35 findings(" + g + ")", x.findings(g), want[g]);
        }
        for (int f : new int[] {0, -1, 6, Integer.MAX_VALUE, Integer.MIN_VALUE}) {
            DUE.is("35 findings(" + f + ")", x.findings(f), SightChart.BAD);
        }
    }

    private static void digests() {
        SightChart x = new SightChart();
        x.node(1, 3);
        x.weigh(0, 0, 1, 2);
        x.node(2, 2);
        x.sight(1, 0);
        x.node(0, 0);
        x.parent(2, 1);
        x.parent(2, 0);
        for (int p = 0; p < 6; p++) x.worth(2, p, p - 3);
        x.row(1, 2);
        x.lay(1, 1, Integer.MIN_VALUE);
        x.row(3, 0);
        int[] free = {1, 3, 0, 0, 1, 0, 1, 2, 9, 2, 2, 0, 1, 0, 1, 0, 0, 2, 0, 6, 1, 0, 0, -3, -2, -1, 0, 1, 2,
            -1, 2, 0, Integer.MIN_VALUE, -1, 0};
        DUE.is("36 digest()", x.digest(), hash(free));
        x.firm(1, 1);
        int[] firm = {1, 3, 0, 0, 1, 0, 1, 2, 9, 3, 2, 0, 1, 0, 1, 1, 0, 0, 2, 0, 6, 1, 0, 0, -3, -2, -1, 0, 1, 2,
            -1, 2, 0, Integer.MIN_VALUE, -1, 0};
        DUE.is("36 digest(), FIRM", x.digest(), hash(firm));
        x.best();
        x.bestForgetting();
        x.span(2, 0, true);
        x.meanSights();
        x.row(0, -1);
        DUE.is("36 the same again", x.digest(), hash(firm));
    }

    private static long hash(int[] values) {
        long h = 17;
        for (int v : values) h = 31 * h + v;
        return h;
    }
}
