import java.util.function.Supplier;
import java.util.function.ToIntFunction;

/** Promises 8 to 13, single NODES: for each sentence that names a boundary case a test of its own. */
public final class NodeSentencesTest {
    private static final int BAD = Scenes.BAD, NONE = Scenes.NONE;
    private static final int LEAST = Scenes.LEAST, GREATEST = Scenes.GREATEST;
    private static final int BEYOND = Scenes.BEYOND, UNLIKE = Scenes.UNLIKE, NOUGHT = Scenes.NOUGHT;
    private static final Supplier<SightChart> MIXED = Scenes::mixed;

    public static void main(String[] args) throws ReflectiveOperationException {
        Sentences.run(NodeSentencesTest.class);
    }

    private static void allBad(Due due, String call, ToIntFunction<SightChart> asked) {
        due.refuses(BAD, call, MIXED, asked);
    }

    /** A WORTH, NODE 3, with as many places as there can be. */
    private static SightChart widest() {
        SightChart x = Scenes.nodes(13, 23, 13, 0);
        Scenes.parents(x, 3, 0, 1, 2);
        return x;
    }

    // ---- 8 worth

    @Says(promise = 8, words = "A place of a WORTH's TABLE is v")
    static void numbersFromLeastToGreatest(Due due) {
        for (int v : new int[] {-100, -99, -1, 0, 1, 99, 100}) {
            SightChart x = Scenes.nodes(0);
            due.is("worth(0, 0, " + v + ")", x.worth(0, 0, v), 1);
            due.tells("THE BEST", x, x.best(), v, 1);
        }
    }

    @Says(promise = 8, words = "A place of a WORTH's TABLE is v")
    static void placesFromFirstToLast(Due due) {
        SightChart x = widest();
        for (int p : new int[] {0, 13, 26}) x.worth(3, p, p + 1);
        for (int p = 0; p < 27; p++) due.asks("place " + p, x, x.worth(3, p, 0), p % 13 == 0 ? p + 1 : 0);
    }

    @Says(promise = 8, words = "what it was, told by asked(): 1")
    static void worthTellsWhatItWas(Due due) {
        SightChart x = Scenes.nodes(0);
        due.asks("at first", x, x.worth(0, 0, 100), 0);
        due.asks("the greatest", x, x.worth(0, 0, -100), 100);
        due.asks("the least", x, x.worth(0, 0, -100), -100);
        due.asks("the same again", x, x.worth(0, 0, 0), -100);
        due.asks("0", x, x.worth(0, 0, 5), 0);
    }

    @Says(promise = 8, words = "BAD: the NODE, v")
    static void worthBad(Due due) {
        for (int n : Scenes.NO_NODE) allBad(due, "worth(" + n + ", 0, 0)", x -> x.worth(n, 0, 0));
        for (int v : new int[] {-101, 101, LEAST, GREATEST, 256, -256}) {
            allBad(due, "v = " + v, x -> x.worth(7, 0, v));
            allBad(due, "ahead of UNLIKE, v = " + v, x -> x.worth(0, 0, v));
            allBad(due, "ahead of BEYOND, v = " + v, x -> x.worth(7, 12, v));
        }
        allBad(due, "the NODE ahead of BEYOND", x -> x.worth(8, -1, 0));
    }

    @Says(promise = 8, words = "UNLIKE")
    static void worthUnlike(Due due) {
        for (int n : new int[] {0, 1, 3, 4, 5, 6}) {
            due.refusesAs(UNLIKE, "worth(" + n + ", 0, 1)", MIXED, x -> x.worth(n, 0, 1));
            due.refusesAs(UNLIKE, "ahead of BEYOND", MIXED, x -> x.worth(n, -1, 1));
        }
    }

    @Says(promise = 8, words = "BEYOND: no such place")
    static void worthBeyond(Due due) {
        for (int p : new int[] {-1, 12, 26, 27, LEAST, GREATEST}) {
            due.refusesAs(BEYOND, "of 12: " + p, MIXED, x -> x.worth(7, p, 1));
        }
        for (int p : new int[] {-1, 1, 2}) due.refusesAs(BEYOND, "of 1: " + p, MIXED, x -> x.worth(2, p, 1));
        for (int p : new int[] {-1, 27, 28}) {
            due.refusesAs(BEYOND, "of 27: " + p, NodeSentencesTest::widest, x -> x.worth(3, p, 1));
        }
        due.is("the last of 12", Scenes.mixed().worth(7, 11, 1), 1);
    }

    // ---- 9 firm

    @Says(promise = 9, words = "A CHOICE is FIRM in a STATE")
    static void firmInEachState(Due due) {
        for (int states = 2; states <= 3; states++) {
            for (int s = 0; s < states; s++) {
                SightChart x = Scenes.nodes(20 + states);
                due.is("firm(0, " + s + ")", x.firm(0, s), NONE);
                due.is("its KIND", x.told(0, 0), 3);
                due.is("its STATE", x.mark(0, 3), s);
                due.is("still a CHOICE", x.count(2), 1);
            }
        }
    }

    @Says(promise = 9, words = "(NONE: no more)")
    static void firmNoMore(Due due) {
        SightChart x = Scenes.mixed();
        due.is("no more", x.firm(Scenes.MADE, NONE), 2);
        due.is("its KIND", x.told(Scenes.MADE, 0), 2);
        due.finds("its STATE", x, x.mark(Scenes.MADE, 3), UNLIKE);
        due.is("its SIGHTS stay", x.told(Scenes.MADE, 3), 1);
    }

    @Says(promise = 9, words = "the STATE in which it was (NONE)")
    static void firmTellsWhatItWas(Due due) {
        SightChart x = Scenes.nodes(23);
        int[] states = {NONE, 0, 0, 2, 1, NONE, NONE, 2};
        for (int i = 1; i < states.length; i++) due.is("call " + i, x.firm(0, states[i]), states[i - 1]);
    }

    @Says(promise = 9, words = "BAD: the NODE")
    static void firmOfNoNode(Due due) {
        for (int n : Scenes.NO_NODE) {
            for (int s : new int[] {0, NONE, 3}) allBad(due, "firm(" + n + ", " + s + ")", x -> x.firm(n, s));
        }
    }

    @Says(promise = 9, words = "UNLIKE")
    static void firmUnlike(Due due) {
        for (int n : new int[] {0, 1, 2, 5, 7}) {
            for (int s : new int[] {0, 1, NONE, -1, 3}) {
                due.refusesAs(UNLIKE, "firm(" + n + ", " + s + ")", MIXED, x -> x.firm(n, s));
            }
        }
    }

    @Says(promise = 9, words = "BEYOND: no such STATE")
    static void firmBeyond(Due due) {
        for (int s : new int[] {-1, 2, 3, -8, -10, LEAST, GREATEST}) {
            due.refusesAs(BEYOND, "of 2: " + s, MIXED, x -> x.firm(Scenes.FREE, s));
        }
        for (int s : new int[] {-1, 3, 4, -8, -10, LEAST, GREATEST}) {
            due.refusesAs(BEYOND, "of 3, FIRM: " + s, MIXED, x -> x.firm(Scenes.MADE, s));
        }
    }

    // ---- 10 told

    @Says(promise = 10, words = "Of a NODE: 0 its KIND")
    static void toldKinds(Due due) {
        int[] kinds = {1, 1, 0, 2, 3, 1, 2, 0};
        for (int n = 0; n < 8; n++) due.is("told(" + n + ", 0)", Scenes.mixed().told(n, 0), kinds[n]);
    }

    @Says(promise = 10, words = "1 its STATES (0: a WORTH)")
    static void toldStates(Due due) {
        int[] states = {2, 3, 0, 2, 3, 2, 3, 0};
        for (int n = 0; n < 8; n++) due.is("told(" + n + ", 1)", Scenes.mixed().told(n, 1), states[n]);
    }

    @Says(promise = 10, words = "2 how many PARENTS")
    static void toldParents(Due due) {
        int[] parents = {0, 1, 0, 0, 0, 2, 0, 3};
        for (int n = 0; n < 8; n++) due.is("told(" + n + ", 2)", Scenes.mixed().told(n, 2), parents[n]);
    }

    @Says(promise = 10, words = "3 how many SIGHTS")
    static void toldSights(Due due) {
        int[] sights = {0, 0, 0, 1, 1, 0, 0, 0};
        for (int n = 0; n < 8; n++) due.is("told(" + n + ", 3)", Scenes.mixed().told(n, 3), sights[n]);
    }

    @Says(promise = 10, words = "4 how many places (rows, of a CHANCE) its TABLE has (0: a CHOICE)")
    static void toldPlaces(Due due) {
        int[] places = {1, 2, 1, 0, 0, 6, 0, 12};
        for (int n = 0; n < 8; n++) due.is("told(" + n + ", 4)", Scenes.mixed().told(n, 4), places[n]);
        due.is("the most of a WORTH", widest().told(3, 4), 27);
        SightChart x = Scenes.nodes(13, 13, 13);
        Scenes.parents(x, 2, 0, 1);
        due.is("the most of a CHANCE", x.told(2, 4), 9);
    }

    @Says(promise = 10, words = "BAD.")
    static void toldBad(Due due) {
        for (int n : Scenes.NO_NODE) {
            for (int what = 0; what <= 4; what++) {
                int w = what;
                allBad(due, "told(" + n + ", " + w + ")", x -> x.told(n, w));
            }
        }
        for (int what : new int[] {-1, 5, 6, LEAST, GREATEST}) {
            for (int node = 0; node < 8; node++) {
                int n = node;
                allBad(due, "told(" + n + ", " + what + ")", x -> x.told(n, what));
            }
        }
    }

    // ---- 11 mark

    @Says(promise = 11, words = "What a NODE that IS of a KIND tells: a CHANCE how many CHOICES see it")
    static void markOfAChance(Due due) {
        SightChart x = Scenes.nodes(12, 22, 22, 22, 22, 22, 0);
        due.is("none", x.mark(0, 1), 0);
        for (int c = 5; c >= 1; c--) {
            x.sight(c, 0);
            due.is("seen by " + (6 - c), x.mark(0, 1), 6 - c);
        }
        x.firm(1, 0);
        due.is("FIRM ones see, too", x.mark(0, 1), 5);
        x.parent(6, 0);
        due.is("PARENTS don't count", x.mark(0, 1), 5);
        x.blind(3, 0);
        due.is("one less", x.mark(0, 1), 4);
    }

    @Says(promise = 11, words = "a CHOICE (FIRM, too) how many NODES have it as PARENT")
    static void markOfAChoice(Due due) {
        SightChart x = Scenes.nodes(22, 22, 0, 12, 0, 0, 0, 0, 0, 0);
        due.is("none", x.mark(0, 2), 0);
        for (int n = 9; n >= 2; n--) {
            x.parent(n, 1);
            x.parent(n, 0);
            due.is("PARENT of " + (10 - n), x.mark(0, 2), 10 - n);
        }
        x.firm(0, 1);
        due.is("FIRM, too", x.mark(0, 2), 8);
    }

    @Says(promise = 11, words = "a FIRM one its STATE")
    static void markOfAFirmOne(Due due) {
        SightChart x = Scenes.nodes(23, 0);
        x.parent(1, 0);
        for (int s = 0; s < 3; s++) {
            x.firm(0, s);
            due.is("FIRM in " + s, x.mark(0, 3), s);
        }
    }

    @Says(promise = 11, words = "BAD: also KIND 0")
    static void markBad(Due due) {
        for (int n : Scenes.NO_NODE) {
            for (int kind = 0; kind <= 3; kind++) {
                int k = kind;
                allBad(due, "mark(" + n + ", " + k + ")", x -> x.mark(n, k));
            }
        }
        for (int kind : new int[] {0, -1, 4, 5, LEAST, GREATEST}) {
            for (int node = 0; node < 8; node++) {
                int n = node;
                allBad(due, "mark(" + n + ", " + kind + ")", x -> x.mark(n, kind));
            }
        }
    }

    @Says(promise = 11, words = "UNLIKE")
    static void markUnlike(Due due) {
        int[][] kindsOf = {{1}, {1}, {}, {2}, {2, 3}, {1}, {2}, {}};
        for (int node = 0; node < 8; node++) {
            for (int kind = 1; kind <= 3; kind++) {
                boolean is = false;
                for (int k : kindsOf[node]) is |= k == kind;
                if (is) continue;
                int n = node;
                int k = kind;
                due.refusesAs(UNLIKE, "mark(" + n + ", " + k + ")", MIXED, x -> x.mark(n, k));
            }
        }
    }

    // ---- 12 mean

    @Says(promise = 12, words = "The mean of all places of a WORTH's TABLE")
    static void meanOfOneAndOfTheMost(Due due) {
        SightChart one = Scenes.nodes(0);
        due.asks("at first", one, one.mean(0), 0);
        one.worth(0, 0, -100);
        due.asks("one place", one, one.mean(0), -100);
        SightChart x = widest();
        for (int p = 0; p < 27; p++) x.worth(3, p, 100);
        due.asks("27 of the greatest", x, x.mean(3), 100);
        x.worth(3, 26, 73);
        due.asks("the last one counts", x, x.mean(3), 99);
        x.worth(3, 0, 73);
        due.asks("the first one counts", x, x.mean(3), 98);
    }

    @Says(promise = 12, words = "cut, told by asked(): 1")
    static void meanIsCut(Due due) {
        int[][] cut = {{1, 0, 0}, {-1, 0, 0}, {1, 2, 1}, {-1, -2, -1}, {100, 99, 99}, {-100, -99, -99}, {3, 3, 3},
            {-3, -3, -3}, {100, -100, 0}, {100, -99, 0}, {-100, 99, 0}};
        for (int[] c : cut) {
            SightChart x = Scenes.either(c[0], c[1]);
            due.asks("mean of " + c[0] + " and " + c[1], x, x.mean(1), c[2]);
        }
    }

    @Says(promise = 12, words = "BAD")
    static void meanBad(Due due) {
        for (int n : Scenes.NO_NODE) allBad(due, "mean(" + n + ")", x -> x.mean(n));
    }

    @Says(promise = 12, words = "UNLIKE")
    static void meanUnlike(Due due) {
        for (int n : new int[] {0, 1, 3, 4, 5, 6}) {
            due.refusesAs(UNLIKE, "mean(" + n + ")", MIXED, x -> x.mean(n));
        }
    }

    // ---- 13 meanSights

    @Says(promise = 13, words = "The mean number of SIGHTS of CHOICES, cut")
    static void meanOfSightsIsCut(Due due) {
        SightChart x = Scenes.nodes(12, 12, 12, 22, 22, 22);
        int sights = 0;
        for (int c = 3; c < 6; c++) {
            for (int n = 0; n < 3; n++) {
                due.is(sights + " of 3", x.meanSights(), sights / 3);
                x.sight(c, n);
                sights++;
            }
        }
        due.is("all of 3", x.meanSights(), 3);
        for (int c = 3; c < 6; c++) x.firm(c, 0);
        due.is("FIRM ones, too", x.meanSights(), 3);
    }

    @Says(promise = 13, words = "The mean number of SIGHTS of CHOICES, cut")
    static void meanOfSightsIsNotAsked(Due due) {
        SightChart x = Scenes.mixed();
        int told = x.asked();
        due.is("2 of 3", x.meanSights(), 0);
        due.is("asked() as before", x.asked(), told);
    }

    @Says(promise = 13, words = "NOUGHT: no CHOICES")
    static void meanOfNoChoices(Due due) {
        due.refusesAs(NOUGHT, "no NODES", SightChart::new, SightChart::meanSights);
        due.refusesAs(NOUGHT, "CHANCES and WORTHS alone", () -> Scenes.nodes(12, 0, 13), SightChart::meanSights);
        due.is("one CHOICE", Scenes.nodes(22).meanSights(), 0);
        SightChart firm = Scenes.nodes(22);
        firm.firm(0, 1);
        due.is("a FIRM one is a CHOICE", firm.meanSights(), 0);
    }
}
