import java.util.function.Supplier;

/** Promises 25 to 29, rows: for each sentence that names a boundary case a test of its own. */
public final class RowSentencesTest {
    private static final int BAD = Scenes.BAD, LEAST = Scenes.LEAST, GREATEST = Scenes.GREATEST;
    private static final int NOTHING = Scenes.NOTHING, BEYOND = Scenes.BEYOND, UNLIKE = Scenes.UNLIKE;
    private static final int SIZE = Scenes.SIZE;
    private static final int TEN = Scenes.TEN, EMPTY = Scenes.EMPTY, MISSING = Scenes.MISSING;
    private static final int LONGEST = Scenes.LONGEST;
    private static final Supplier<SightChart> MIXED = Scenes::mixed;

    public static void main(String[] args) throws ReflectiveOperationException {
        Sentences.run(RowSentencesTest.class);
    }

    /** The ROW has just these places; they are 0 then. */
    private static void places(Due due, String call, SightChart x, int r, int... want) {
        for (int i = 0; i < want.length; i++) due.asks(call + ", place " + i, x, x.lay(r, i, 0), want[i]);
        due.finds(call + ", one more", x, x.lay(r, want.length, 0), BEYOND);
    }

    // ---- 25 row

    @Says(promise = 25, words = "A ROW is there with n ints 0: n")
    static void rowsFromNoneTo27(Due due) {
        for (int r = 0; r < 4; r++) {
            for (int n : new int[] {0, 1, 26, 27}) {
                SightChart x = Scenes.mixed();
                due.is("row(" + r + ", " + n + ")", x.row(r, n), n);
                places(due, "row(" + r + ", " + n + ")", x, r, new int[n]);
            }
        }
    }

    @Says(promise = 25, words = "A ROW is there with n ints 0: n")
    static void rowAnewIsAll0(Due due) {
        SightChart x = new SightChart();
        Scenes.lays(x, 1, 7, 8, 9);
        due.is("shorter", x.row(1, 1), 1);
        due.is("longer again", x.row(1, 3), 3);
        places(due, "anew", x, 1, 0, 0, 0);
        Scenes.lays(x, 1, 7, 8, 9);
        due.is("as long", x.row(1, 3), 3);
        places(due, "as long", x, 1, 0, 0, 0);
        Scenes.lays(x, 1, 7, 8, 9);
        x.tear(1);
        x.row(1, 3);
        places(due, "behind tear()", x, 1, 0, 0, 0);
    }

    @Says(promise = 25, words = "BAD: also n above 27")
    static void rowBad(Due due) {
        for (int r : Scenes.NO_ROW) {
            due.refuses(BAD, "row(" + r + ", 1)", MIXED, x -> x.row(r, 1));
            due.refuses(BAD, "ahead of SIZE, " + r, MIXED, x -> x.row(r, -1));
        }
        for (int n : new int[] {28, 29, 32, GREATEST}) {
            due.refuses(BAD, "row(0, " + n + ")", MIXED, x -> x.row(TEN, n));
            due.refuses(BAD, "row(2, " + n + ")", MIXED, x -> x.row(MISSING, n));
        }
    }

    @Says(promise = 25, words = "SIZE")
    static void rowSize(Due due) {
        for (int n : new int[] {-1, -2, -28, LEAST}) {
            for (int row = 0; row < 4; row++) {
                int r = row;
                due.refusesAs(SIZE, "row(" + r + ", " + n + ")", MIXED, x -> x.row(r, n));
            }
        }
    }

    // ---- 26 lay

    @Says(promise = 26, words = "Place i of a ROW is v")
    static void layFromFirstToLast(Due due) {
        SightChart x = Scenes.mixed();
        x.row(LONGEST, 27);
        for (int i : new int[] {0, 13, 26}) x.lay(LONGEST, i, i + 1);
        int[] want = new int[27];
        for (int i : new int[] {0, 13, 26}) want[i] = i + 1;
        places(due, "27 places", x, LONGEST, want);
    }

    @Says(promise = 26, words = "what it was, told by asked(): 1")
    static void layTellsWhatItWas(Due due) {
        SightChart x = new SightChart();
        x.row(2, 1);
        int[] numbers = {0, LEAST, GREATEST, -1, 101, -9, 0, 0};
        for (int k = 1; k < numbers.length; k++) due.asks("call " + k, x, x.lay(2, 0, numbers[k]), numbers[k - 1]);
    }

    @Says(promise = 26, words = "BAD")
    static void layBad(Due due) {
        for (int r : Scenes.NO_ROW) {
            for (int i : new int[] {0, -1, 27}) due.refuses(BAD, "lay(" + r + ", " + i + ", 1)", MIXED, x -> x.lay(r, i, 1));
        }
    }

    @Says(promise = 26, words = "NOTHING")
    static void layOfAMissingRow(Due due) {
        for (int i : new int[] {0, -1, 27, GREATEST}) {
            due.refusesAs(NOTHING, "lay(2, " + i + ", 1)", MIXED, x -> x.lay(MISSING, i, 1));
        }
    }

    @Says(promise = 26, words = "BEYOND")
    static void layBeyond(Due due) {
        int[] sizes = {10, 0, -1, 27};
        for (int r : new int[] {TEN, EMPTY, LONGEST}) {
            for (int i : new int[] {-1, sizes[r], sizes[r] + 1, 27, 28, LEAST, GREATEST}) {
                due.refusesAs(BEYOND, "lay(" + r + ", " + i + ", 1)", MIXED, x -> x.lay(r, i, 1));
            }
        }
    }

    // ---- 27 tear

    @Says(promise = 27, words = "A ROW is missing: 1")
    static void tearOneAlone(Due due) {
        for (int r : new int[] {TEN, EMPTY, LONGEST}) {
            SightChart x = Scenes.mixed();
            due.is("tear(" + r + ")", x.tear(r), 1);
            for (int other = 0; other < 4; other++) {
                boolean missing = other == r || other == MISSING;
                due.is("ROW " + other, x.copy(other, 0, other, 0, 0), missing ? SightChart.FINDING : 1);
            }
        }
    }

    @Says(promise = 27, words = "BAD")
    static void tearBad(Due due) {
        for (int r : Scenes.NO_ROW) due.refuses(BAD, "tear(" + r + ")", MIXED, x -> x.tear(r));
    }

    @Says(promise = 27, words = "NOTHING")
    static void tearOfAMissingRow(Due due) {
        due.refusesAs(NOTHING, "never there", MIXED, x -> x.tear(MISSING));
        Supplier<SightChart> torn = () -> {
            SightChart x = Scenes.mixed();
            x.tear(LONGEST);
            return x;
        };
        due.refusesAs(NOTHING, "torn already", torn, x -> x.tear(LONGEST));
    }

    // ---- 28 copy

    private static SightChart counted(int... places) {
        SightChart x = new SightChart();
        Scenes.lays(x, 0, places);
        x.row(1, 3);
        x.row(3, 0);
        return x;
    }

    @Says(promise = 28, words = "n places of a ROW, from one on, come to those of another one")
    static void copyFromNoneToAll(Due due) {
        int[][] calls = {{0, 0, 0}, {0, 0, 3}, {2, 1, 2}, {4, 2, 1}, {3, 0, 2}, {5, 3, 0}, {0, 3, 0}, {5, 0, 0}};
        int[][] wants = {{0, 0, 0}, {1, 2, 3}, {0, 3, 4}, {0, 0, 5}, {4, 5, 0}, {0, 0, 0}, {0, 0, 0}, {0, 0, 0}};
        for (int k = 0; k < calls.length; k++) {
            int[] c = calls[k];
            SightChart x = counted(1, 2, 3, 4, 5);
            due.is("call " + k, x.copy(0, c[0], 1, c[1], c[2]), 1);
            places(due, "call " + k + ", to", x, 1, wants[k]);
            places(due, "call " + k + ", from", x, 0, 1, 2, 3, 4, 5);
        }
    }

    @Says(promise = 28, words = "n places of a ROW, from one on, come to those of another one")
    static void copyOfTheLongest(Due due) {
        int[] all = new int[27];
        for (int i = 0; i < 27; i++) all[i] = GREATEST - i;
        SightChart x = new SightChart();
        Scenes.lays(x, 3, all);
        x.row(0, 27);
        due.is("27", x.copy(3, 0, 0, 0, 27), 1);
        places(due, "27", x, 0, all);
        due.is("none of none", counted().copy(3, 0, 3, 0, 0), 1);
        due.is("none of none to some", counted(1).copy(3, 0, 0, 1, 0), 1);
    }

    @Says(promise = 28, words = "(perhaps itself) from one on, as if taken ahead: 1")
    static void copyToItself(Due due) {
        int[][] calls = {{0, 1, 4}, {1, 0, 4}, {0, 0, 5}, {0, 2, 3}, {2, 0, 3}, {0, 4, 1}, {4, 0, 1}, {5, 5, 0}};
        int[][] wants = {{1, 1, 2, 3, 4}, {2, 3, 4, 5, 5}, {1, 2, 3, 4, 5}, {1, 2, 1, 2, 3}, {3, 4, 5, 4, 5},
            {1, 2, 3, 4, 1}, {5, 2, 3, 4, 5}, {1, 2, 3, 4, 5}};
        for (int k = 0; k < calls.length; k++) {
            int[] c = calls[k];
            SightChart x = counted(1, 2, 3, 4, 5);
            due.is("call " + k, x.copy(0, c[0], 0, c[1], c[2]), 1);
            places(due, "call " + k, x, 0, wants[k]);
        }
    }

    @Says(promise = 28, words = "BAD;")
    static void copyBad(Due due) {
        for (int r : Scenes.NO_ROW) {
            for (int n : new int[] {0, 1, -1, 28}) {
                due.refuses(BAD, "from " + r + ", " + n, MIXED, x -> x.copy(r, 0, TEN, 0, n));
                due.refuses(BAD, "to " + r + ", " + n, MIXED, x -> x.copy(TEN, 0, r, 0, n));
                due.refuses(BAD, "both " + r + ", " + n, MIXED, x -> x.copy(r, 0, r, 0, n));
            }
            due.refuses(BAD, "ahead of NOTHING, " + r, MIXED, x -> x.copy(MISSING, 0, r, 0, 0));
        }
    }

    @Says(promise = 28, words = "SIZE: n below 0")
    static void copySize(Due due) {
        for (int n : new int[] {-1, -27, LEAST}) {
            due.refusesAs(SIZE, "n = " + n, MIXED, x -> x.copy(TEN, 5, LONGEST, 5, n));
            due.refusesAs(SIZE, "ahead of NOTHING", MIXED, x -> x.copy(MISSING, 0, TEN, 0, n));
            due.refusesAs(SIZE, "ahead of NOTHING", MIXED, x -> x.copy(TEN, 0, MISSING, 0, n));
            due.refusesAs(SIZE, "ahead of BEYOND", MIXED, x -> x.copy(TEN, 99, LONGEST, -1, n));
        }
    }

    @Says(promise = 28, words = "NOTHING: either")
    static void copyOfAMissingRow(Due due) {
        for (int n : new int[] {0, 1, 28}) {
            for (int i : new int[] {0, -1, 28}) {
                due.refusesAs(NOTHING, "from", MIXED, x -> x.copy(MISSING, i, TEN, 0, n));
                due.refusesAs(NOTHING, "to", MIXED, x -> x.copy(TEN, i, MISSING, 0, n));
                due.refusesAs(NOTHING, "both", MIXED, x -> x.copy(MISSING, i, MISSING, i, n));
            }
        }
    }

    /** All numbers of places from -1 to beyond both ROWS; then some that run over. */
    @Says(promise = 28, words = "BEYOND: not so many there")
    static void copyBeyond(Due due) {
        for (int i = -1; i <= 4; i++) {
            for (int j = -1; j <= 4; j++) {
                for (int n = 0; n <= 4; n++) copyOne(due, i, j, n);
            }
        }
        int[][] over = {{0, 0, GREATEST}, {GREATEST, 0, 1}, {0, GREATEST, 1}, {1, 0, GREATEST}, {0, 1, GREATEST},
            {GREATEST, GREATEST, GREATEST}, {GREATEST, 0, 0}, {0, GREATEST, 0}, {LEAST, 0, 0}, {0, LEAST, 0},
            {LEAST, 0, GREATEST}, {0, LEAST, GREATEST}, {GREATEST - 1, 0, 3}, {0, GREATEST - 1, 3}, {LEAST, LEAST, 1}};
        for (int[] o : over) copyOne(due, o[0], o[1], o[2]);
    }

    private static void copyOne(Due due, int i, int j, int n) {
        Supplier<SightChart> chart = () -> counted(7, 8);
        String call = "copy(0, " + i + ", 1, " + j + ", " + n + ")";
        boolean there = i >= 0 && j >= 0 && (long) i + n <= 2 && (long) j + n <= 3;
        if (there) due.is(call, chart.get().copy(0, i, 1, j, n), 1);
        else due.refusesAs(BEYOND, call, chart, x -> x.copy(0, i, 1, j, n));
    }

    // ---- 29 fill

    @Says(promise = 29, words = "A ROW's places become those of a WORTH's TABLE (as many as both have")
    static void fillAsManyAsBothHave(Due due) {
        for (int size : new int[] {0, 1, 11, 12, 13, 27}) {
            SightChart x = Scenes.mixed();
            x.row(MISSING, size);
            for (int i = 0; i < size; i++) x.lay(MISSING, i, i - 5);
            int[] before = {10, -20, 30, 0, 50, -60, 0, 80, -90, 100, -100, 1};
            due.is("fill(7, 2) with " + size, x.fill(7, MISSING), Math.min(size, 12));
            for (int p = 0; p < 12; p++) {
                due.asks("place " + p + " of " + size, x, x.worth(7, p, 0), p < size ? p - 5 : before[p]);
            }
            places(due, "the ROW stays, " + size, x, MISSING, upFrom(-5, size));
        }
    }

    private static int[] upFrom(int first, int count) {
        int[] out = new int[count];
        for (int i = 0; i < count; i++) out[i] = first + i;
        return out;
    }

    @Says(promise = 29, words = "those beyond -100 .. 100 as the nearest of these)")
    static void fillWithTheNearest(Due due) {
        int[] given = {-100, -101, -99, 100, 101, 99, LEAST, GREATEST, -1000};
        int[] want = {-100, -100, -99, 100, 100, 99, -100, 100, -100};
        for (int k = 0; k < given.length; k++) {
            SightChart x = Scenes.mixed();
            x.lay(TEN, 0, given[k]);
            due.is("fill(2, 0)", x.fill(2, TEN), 1);
            due.asks("from " + given[k], x, x.worth(2, 0, 0), want[k]);
            due.asks("the ROW stays", x, x.lay(TEN, 0, 0), given[k]);
        }
    }

    @Says(promise = 29, words = "how many")
    static void fillTellsHowMany(Due due) {
        due.is("one place", Scenes.mixed().fill(2, TEN), 1);
        due.is("the ROW is shorter", Scenes.mixed().fill(7, TEN), 10);
        due.is("the TABLE is shorter", Scenes.mixed().fill(7, LONGEST), 12);
        due.is("none", Scenes.mixed().fill(7, EMPTY), 0);
        SightChart x = Scenes.nodes(13, 13, 13, 0);
        Scenes.parents(x, 3, 0, 1, 2);
        x.row(0, 27);
        due.is("27", x.fill(3, 0), 27);
        x = Scenes.mixed();
        int told = x.asked();
        x.fill(7, TEN);
        due.is("asked() as before", x.asked(), told);
    }

    @Says(promise = 29, words = "BAD;")
    static void fillBad(Due due) {
        for (int n : Scenes.NO_NODE) {
            due.refuses(BAD, "fill(" + n + ", 0)", MIXED, x -> x.fill(n, TEN));
            due.refuses(BAD, "ahead of NOTHING", MIXED, x -> x.fill(n, MISSING));
        }
        for (int r : Scenes.NO_ROW) {
            due.refuses(BAD, "fill(7, " + r + ")", MIXED, x -> x.fill(7, r));
            for (int n : new int[] {0, 3, 4}) due.refuses(BAD, "ahead of UNLIKE", MIXED, x -> x.fill(n, r));
        }
    }

    @Says(promise = 29, words = "UNLIKE")
    static void fillUnlike(Due due) {
        for (int n : new int[] {0, 1, 3, 4, 5, 6}) {
            due.refusesAs(UNLIKE, "fill(" + n + ", 0)", MIXED, x -> x.fill(n, TEN));
            due.refusesAs(UNLIKE, "ahead of NOTHING", MIXED, x -> x.fill(n, MISSING));
        }
    }

    @Says(promise = 29, words = "NOTHING")
    static void fillFromAMissingRow(Due due) {
        for (int n : Scenes.WORTHS) due.refusesAs(NOTHING, "fill(" + n + ", 2)", MIXED, x -> x.fill(n, MISSING));
    }
}
