import java.util.function.Supplier;

/** "What it is" and the first part of "Terms": for each sentence that names a boundary case a test of its own. */
public final class TermSentencesTest {
    private static final int BAD = Scenes.BAD, FULL = Scenes.FULL, STATE = Scenes.STATE, SPENT = Scenes.SPENT;
    private static final int NONE = Scenes.NONE, LEAST = Scenes.LEAST, GREATEST = Scenes.GREATEST;
    private static final int NOTHING = Scenes.NOTHING, BEYOND = Scenes.BEYOND, UNLIKE = Scenes.UNLIKE;
    private static final int SIZE = Scenes.SIZE;
    private static final Supplier<SightChart> MIXED = Scenes::mixed;

    public static void main(String[] args) throws ReflectiveOperationException {
        Sentences.run(TermSentencesTest.class);
    }

    // ---- what it is

    @Says(promise = 0, words = "An object is used for at most 512 calls after it has been made")
    static void the512thCallIsAnswered(Due due) {
        SightChart x = new SightChart();
        for (int call = 1; call < 512; call++) x.tear(3);
        due.is("findings(1) as the 512th", x.findings(NOTHING), 511);
        x = new SightChart();
        for (int call = 1; call < 511; call++) x.row(call % 4, call % 28);
        x.row(3, 27);
        due.is("lay() as the 512th", x.lay(3, 26, 1), 1);
    }

    /** The dearest calls, on the greatest charts. */
    @Says(promise = 0, words = "An object is used for at most 512 calls after it has been made")
    static void the512thPlanIsAsTheFirst(Due due) {
        SightChart x = Scenes.nodes(13, 13, 23, 13, 23, 0);
        for (int n : new int[] {0, 1, 3}) x.weigh(n, 0, 4, 4);
        x.sight(2, 0);
        Scenes.parents(x, 5, 0, 2, 4);
        for (int p = 0; p < 27; p++) x.worth(5, p, p % 9 % 4 == 0 ? 9 : 0);
        for (int call = 41; call < 511; call++) {
            int answer = call % 3 == 0 ? x.span(5, call % 27, true) : call % 3 == 1 ? x.inHand(1) : x.knowing();
            due.is("call " + call, answer, 1);
        }
        due.is("best() as the 511th", x.best(), 1);
        due.is("upper() as the 512th", x.upper(), 9);
    }

    // ---- refusals

    @Says(promise = 0, words = "Refused is, the first of these that fits, in this order: BAD -1 (a number that is none, "
        + "or not as told), FULL -2")
    static void badAheadOfFull(Due due) {
        due.refuses(BAD, "a KIND that is none", Scenes::fullOfAll, x -> x.node(3, 2));
        due.refuses(BAD, "STATES not as told", Scenes::fullOfAll, x -> x.node(1, 4));
        due.refuses(BAD, "twice the same, of a full one", MIXED, x -> x.parent(5, 1));
        due.refuses(FULL, "FULL alone", Scenes::fullOfAll, x -> x.node(0, 0));
        due.is("BAD", SightChart.BAD, -1);
        due.is("FULL", SightChart.FULL, -2);
    }

    @Says(promise = 0, words = "STATE -4 (not now)")
    static void badAheadOfState(Due due) {
        due.refuses(STATE, "STATE alone", MIXED, x -> x.sight(3, 0));
        due.refuses(BAD, "a number that is none", MIXED, x -> x.sight(3, 32));
        due.is("STATE", SightChart.STATE, -4);
    }

    @Says(promise = 0, words = "SPENT -6 (too much)")
    static void fullAheadOfSpent(Due due) {
        due.refuses(FULL, "243 WORLDS and 10 NODES", Scenes::fullOfAll, x -> x.node(1, 2));
        due.refuses(SPENT, "243 WORLDS", () -> Scenes.nodes(13, 13, 13, 13, 23), x -> x.node(1, 2));
        due.refuses(BAD, "243 WORLDS, and a KIND that is none", () -> Scenes.nodes(13, 13, 13, 13, 23), x -> x.node(3, 2));
        due.is("SPENT", SightChart.SPENT, -6);
    }

    @Says(promise = 0, words = "FINDING -3 (finding() tells which)")
    static void badAheadOfFinding(Due due) {
        due.refuses(BAD, "UNLIKE, too", MIXED, x -> x.worth(0, 0, 101));
        due.refuses(BAD, "BEYOND, too", MIXED, x -> x.weigh(0, 9, 7, 6));
        due.refuses(BAD, "NOTHING, too", MIXED, x -> x.fill(8, Scenes.MISSING));
        due.refuses(BAD, "SIZE, too", MIXED, x -> x.row(4, -1));
        due.refusesAs(UNLIKE, "UNLIKE alone", MIXED, x -> x.worth(0, 0, 100));
        due.is("FINDING", SightChart.FINDING, -3);
    }

    @Says(promise = 0, words = "unless a call says so otherwise")
    static void unlikeAheadOfFullAndState(Due due) {
        due.refusesAs(UNLIKE, "parent() of a CHOICE", MIXED, x -> x.parent(3, 0));
        due.refusesAs(UNLIKE, "blind() of a CHANCE", MIXED, x -> x.blind(1, 0));
        due.refusesAs(UNLIKE, "needless() of a CHANCE", MIXED, x -> x.needless(1, 0));
        due.refusesAs(UNLIKE, "span() without a CHOICE", () -> Scenes.nodes(12, 0), x -> x.span(0, 0, true));
        due.refusesAs(BEYOND, "span() without a CHOICE", () -> Scenes.nodes(12, 0), x -> x.span(1, 1, true));
    }

    @Says(promise = 0, words = "NONE -9")
    static void noneIsMinus9(Due due) {
        due.is("NONE", NONE, -9);
        due.is("firm() of a free one", Scenes.nodes(22).firm(0, 1), -9);
        SightChart x = Scenes.nodes(22);
        x.firm(0, 1);
        due.is("no more", x.firm(0, -9), 1);
        due.is("free again", x.told(0, 0), 2);
    }

    /** Each call that can be refused at all, on a chart where it would change or tell something. */
    @Says(promise = 0, words = "What is refused changes nothing but finding(), findings()")
    static void refusedChangesNothing(Due due) {
        due.refuses(BAD, "node", MIXED, x -> x.node(2, 4));
        due.refuses(BAD, "parent", MIXED, x -> x.parent(1, 0));
        due.refuses(FULL, "parent", MIXED, x -> x.parent(7, 1));
        due.refusesAs(UNLIKE, "parent", MIXED, x -> x.parent(6, 0));
        due.refusesAs(UNLIKE, "sight", MIXED, x -> x.sight(6, 3));
        due.refusesAs(UNLIKE, "blind", MIXED, x -> x.blind(7, 0));
        due.refusesAs(BEYOND, "weigh", MIXED, x -> x.weigh(1, 2, 1, 1));
        due.refuses(BAD, "weigh", MIXED, x -> x.weigh(0, 0, 1, 1));
        due.refusesAs(BEYOND, "worth", MIXED, x -> x.worth(7, 12, 1));
        due.refusesAs(BEYOND, "firm", MIXED, x -> x.firm(4, 3));
        due.refusesAs(UNLIKE, "mean", MIXED, x -> x.mean(0));
        due.refusesAs(SIZE, "does", MIXED, x -> x.does(3, Scenes.EMPTY));
        due.refuses(SPENT, "bestForgetting", TermSentencesTest::manyPlans, SightChart::bestForgetting);
        due.refuses(SPENT, "lost", TermSentencesTest::manyPlans, SightChart::lost);
        due.refuses(STATE, "worthOf", MIXED, x -> x.worthOf(3, 0));
        due.refusesAs(UNLIKE, "inHand", MIXED, x -> x.inHand(4));
        due.refuses(STATE, "needless", MIXED, x -> x.needless(3, 1));
        due.refusesAs(BEYOND, "span", MIXED, x -> x.span(7, 12, true));
        due.refusesAs(BEYOND, "chance", MIXED, x -> x.chance(1, 3));
        due.refusesAs(SIZE, "row", MIXED, x -> x.row(0, -1));
        due.refusesAs(BEYOND, "lay", MIXED, x -> x.lay(0, 10, 1));
        due.refusesAs(NOTHING, "tear", MIXED, x -> x.tear(2));
        due.refusesAs(BEYOND, "copy", MIXED, x -> x.copy(0, 0, 3, 18, 10));
        due.refusesAs(NOTHING, "fill", MIXED, x -> x.fill(7, 2));
    }

    private static SightChart manyPlans() {
        SightChart x = Scenes.mixed();
        x.sight(Scenes.LAST_CHOICE, 0);
        x.sight(Scenes.LAST_CHOICE, 1);
        return x;
    }

    @Says(promise = 0, words = "FINDINGS: 1 NOTHING (a ROW that is missing)")
    static void findingNothing(Due due) {
        due.refusesAs(1, "tear(2)", MIXED, x -> x.tear(2));
        due.refusesAs(1, "lay(2, ..)", MIXED, x -> x.lay(2, 0, 0));
        due.refusesAs(1, "copy() to 2", MIXED, x -> x.copy(0, 0, 2, 0, 0));
        due.refusesAs(1, "fill() from 2", MIXED, x -> x.fill(2, 2));
        due.refusesAs(1, "does() by 2", MIXED, x -> x.does(3, 2));
        due.is("an empty one is not missing", Scenes.mixed().tear(Scenes.EMPTY), 1);
    }

    @Says(promise = 0, words = "2 BEYOND (a place that there is not)")
    static void findingBeyond(Due due) {
        due.refusesAs(2, "of a ROW", MIXED, x -> x.lay(0, 10, 0));
        due.refusesAs(2, "of an empty ROW", MIXED, x -> x.lay(Scenes.EMPTY, 0, 0));
        due.refusesAs(2, "of a WORTH", MIXED, x -> x.worth(2, 1, 0));
        due.refusesAs(2, "of a CHANCE", MIXED, x -> x.weight(0, 1, 0));
    }

    @Says(promise = 0, words = "3 UNLIKE (a NODE of another KIND)")
    static void findingUnlike(Due due) {
        due.refusesAs(3, "a CHANCE", MIXED, x -> x.mean(0));
        due.refusesAs(3, "a FIRM one", MIXED, x -> x.mean(4));
        due.refusesAs(3, "a WORTH", MIXED, x -> x.inHand(2));
        due.refusesAs(3, "a CHOICE that is not FIRM", MIXED, x -> x.mark(3, 3));
    }

    @Says(promise = 0, words = "4 NOUGHT (shared among none)")
    static void findingNought(Due due) {
        due.refusesAs(4, "no CHOICES", () -> Scenes.nodes(12, 0), SightChart::meanSights);
    }

    @Says(promise = 0, words = "5 SIZE (fewer than none)")
    static void findingSize(Due due) {
        due.refusesAs(5, "row()", MIXED, x -> x.row(2, -1));
        due.refusesAs(5, "copy()", MIXED, x -> x.copy(0, 0, 0, 0, -1));
        due.is("none is not fewer", Scenes.mixed().row(2, 0), 0);
        due.is("none is not fewer", Scenes.mixed().copy(0, 0, 0, 0, 0), 1);
    }

    // ---- fractions

    @Says(promise = 0, words = "Fractions are told by upper() and lower(), in lowest terms")
    static void fractionsInLowestTerms(Due due) {
        int[][] wants = {{1, 1, 12}, {2, 1, 6}, {3, 1, 4}, {4, 1, 3}, {5, 5, 12}, {6, 1, 2}, {7, 7, 12}, {8, 2, 3},
            {9, 3, 4}, {10, 5, 6}, {11, 11, 12}, {12, 1, 1}};
        SightChart x = Scenes.nodes(12, 0);
        for (int[] w : wants) {
            x.weigh(0, 0, w[0], 12 - w[0]);
            due.tells(w[0] + " by 12", x, x.chance(0, 0), w[1], w[2]);
        }
        x = Scenes.chain();
        x.worth(7, 1, 96);
        due.tells("96 by 35831808", x, x.best(), 1, 35831808 / 96);
    }

    @Says(promise = 0, words = "the lower number above 0")
    static void fractionsBelow0(Due due) {
        int[][] wants = {{-1, -1, 3}, {-2, -2, 3}, {-3, -1, 1}, {-100, -100, 3}, {-99, -33, 1}};
        for (int[] w : wants) {
            SightChart x = Scenes.nodes(12, 0);
            x.weigh(0, 0, 4, 8);
            x.parent(1, 0);
            x.worth(1, 0, w[0]);
            due.tells("a third of " + w[0], x, x.best(), w[1], w[2]);
        }
    }

    @Says(promise = 0, words = "(0 by 1)")
    static void fractionsOf0(Due due) {
        SightChart x = Scenes.mixed();
        due.is("another one ahead", x.lower(), 144);
        due.tells("a chance of 0", x, x.chance(4, 0), 0, 1);
        x.chance(1, 2);
        x.sight(6, 0);
        due.tells("KNOWN already", x, x.worthOf(6, 1), 0, 1);
    }

    // ---- NODES, TABLES, ROWS

    @Says(promise = 0, words = "NODES 0, 1, .. (10 at most), in the order in which they come about")
    static void tenNodesInTheirOrder(Due due) {
        int[] codes = {0, 12, 23, 0, 13, 22, 0, 0, 12, 0};
        SightChart x = new SightChart();
        for (int n = 0; n < 10; n++) due.is("NODE " + n, x.node(codes[n] / 10, codes[n] % 10), n);
        for (int n = 0; n < 10; n++) due.is("STATES of " + n, x.told(n, 1), codes[n] % 10);
        for (int kind = 0; kind <= 2; kind++) due.is("an eleventh", x.node(kind, 2), FULL);
    }

    @Says(promise = 0, words = "are of a KIND: 0 NODE (a WORTH), 1 CHANCE (a NODE), 2 CHOICE (a NODE), 3 FIRM (a CHOICE "
        + "that was made: it always is one of its STATES)")
    static void aFirmOneIsAChoice(Due due) {
        SightChart x = Scenes.either(5, 9);
        x.firm(0, 0);
        due.is("KIND", x.told(0, 0), 3);
        due.is("a CHOICE, too", x.mark(0, 2), 1);
        due.tells("always that STATE", x, x.chance(0, 0), 1, 1);
        due.tells("its WORTH", x, x.best(), 5, 1);
        due.is("no KIND of a new NODE", x.node(3, 2), BAD);
    }

    @Says(promise = 0, words = "CHANCES and CHOICES have 2 or 3 STATES (0, 1, 2)")
    static void twoOrThreeStates(Due due) {
        for (int kind = 1; kind <= 2; kind++) {
            for (int states = 1; states <= 4; states++) {
                SightChart x = new SightChart();
                boolean taken = states == 2 || states == 3;
                due.is("node(" + kind + ", " + states + ")", x.node(kind, states), taken ? 0 : BAD);
                if (!taken) continue;
                due.is("the last STATE", x.chance(0, states - 1), 1);
                due.finds("one beyond", x, x.chance(0, states), BEYOND);
                due.finds("one below", x, x.chance(0, -1), BEYOND);
            }
        }
    }

    @Says(promise = 0, words = "all of them together (their numbers of STATES multiplied) make 243 at most")
    static void at243WorldsAllIsStillAnswered(Due due) {
        SightChart x = lastWorldIsBest();
        due.is("WORLDS", x.count(4), 243);
        due.tells("best()", x, x.best(), 110, 1);
        due.tells("bestForgetting()", x, x.bestForgetting(), 110, 1);
        due.tells("lost()", x, x.lost(), 0, 1);
        due.tells("knowing()", x, x.knowing(), 0, 1);
        due.tells("worthOf()", x, x.worthOf(4, 0), 0, 1);
        due.tells("inHand()", x, x.inHand(1), 0, 1);
        for (int n = 0; n < 5; n++) due.tells("chance(" + n + ", 2)", x, x.chance(n, 2), 1, 1);
        due.asks("end(false)", x, x.end(false), 110);
        due.asks("end(true)", x, x.end(true), 110);
        due.asks("span(), least", x, x.span(8, 8, false), 1);
        due.asks("span(), greatest", x, x.span(8, 7, true), 9);
        Scenes.lays(x, 0, 2, 2, 2, 2);
        for (int n = 2; n < 5; n++) due.is("does(" + n + ", 0)", x.does(n, 0), 2);
        x.sight(4, 1);
        due.is("needless()", x.needless(4, 1), 1);
    }

    /** Of 243 WORLDS only the last one, where all are in STATE 2, comes about. */
    private static SightChart lastWorldIsBest() {
        SightChart x = Scenes.fullOfAll();
        x.weigh(0, 0, 0, 0);
        x.weigh(1, 0, 0, 0);
        Scenes.parents(x, 9, 4, 1);
        x.worth(9, 8, 100);
        Scenes.parents(x, 8, 2, 3);
        x.worth(8, 8, 10);
        return x;
    }

    @Says(promise = 0, words = "all of them together (their numbers of STATES multiplied) make 243 at most")
    static void beyond243(Due due) {
        for (int kind = 1; kind <= 2; kind++) {
            int k = kind;
            due.refuses(SPENT, "256", () -> Scenes.nodes(12, 22, 12, 22, 12, 22, 12), x -> x.node(k, 2));
            due.refuses(SPENT, "729", () -> Scenes.nodes(13, 23, 13, 23, 13), x -> x.node(k, 3));
            due.is("243", Scenes.nodes(13, 23, 13, 23).node(k, 3), 4);
        }
    }

    @Says(promise = 0, words = "PARENTS of a NODE (2 at most; 3 of a WORTH)")
    static void twoParentsOrThree(Due due) {
        SightChart x = Scenes.nodes(12, 12, 12, 12, 12, 0);
        for (int p = 0; p < 4; p++) due.is("of a CHANCE, " + p, x.parent(4, p), p < 2 ? p + 1 : FULL);
        for (int p = 0; p < 5; p++) due.is("of a WORTH, " + p, x.parent(5, p), p < 3 ? p + 1 : FULL);
    }

    @Says(promise = 0, words = "are CHANCES and CHOICES ahead of it")
    static void parentsAreAhead(Due due) {
        for (int p = -1; p <= 5; p++) {
            SightChart x = Scenes.nodes(12, 22, 0, 12, 12);
            boolean taken = p == 0 || p == 1;
            due.is("parent(3, " + p + ")", x.parent(3, p), taken ? 1 : BAD);
        }
    }

    @Says(promise = 0, words = "A TABLE has a place for each row of their STATES")
    static void placesOfTables(Due due) {
        SightChart x = Scenes.nodes(13, 12, 23, 12, 0);
        int[] ofChance = {1, 3, 6};
        int[] ofWorth = {1, 3, 6, 18};
        for (int p = 0; p < 3; p++) {
            due.is("of a CHANCE", x.told(3, 4), ofChance[Math.min(p, 2)]);
            due.is("of a WORTH", x.told(4, 4), ofWorth[p]);
            if (p < 2) x.parent(3, p);
            x.parent(4, p);
        }
        due.is("of a WORTH with 3", x.told(4, 4), 18);
    }

    @Says(promise = 0, words = "(the first PARENT's STATE counts least: place: the first one's STATE, and its number of "
        + "STATES times (the second one's STATE, and ..))")
    static void theFirstParentCountsLeast(Due due) {
        for (int[] order : new int[][] {{0, 1, 2}, {2, 0, 1}, {1, 2, 0}, {2, 1, 0}}) {
            int[] states = {2, 3, 3};
            SightChart x = Scenes.nodes(22, 23, 23, 0);
            Scenes.parents(x, 3, order);
            for (int p = 0; p < 18; p++) x.worth(3, p, p);
            for (int w = 0; w < 18; w++) {
                int[] st = {w % 2, w / 2 % 3, w / 6};
                for (int n = 0; n < 3; n++) x.firm(n, st[n]);
                int place = st[order[0]] + states[order[0]] * (st[order[1]] + states[order[1]] * st[order[2]]);
                due.tells("place " + place, x, x.best(), place, 1);
            }
        }
    }

    @Says(promise = 0, words = "(the first PARENT's STATE counts least: place: the first one's STATE")
    static void theFirstParentOfAChanceCountsLeast(Due due) {
        for (int[] order : new int[][] {{0, 1}, {1, 0}}) {
            int[] states = {2, 3};
            SightChart x = Scenes.nodes(22, 23, 13);
            Scenes.parents(x, 2, order);
            for (int r = 0; r < 6; r++) x.weigh(2, r, r, 1);
            for (int w = 0; w < 6; w++) {
                int[] st = {w % 2, w / 2};
                for (int n = 0; n < 2; n++) x.firm(n, st[n]);
                int row = st[order[0]] + states[order[0]] * st[order[1]];
                x.chance(2, 0);
                due.is("row " + row, 12 * x.upper(), row * x.lower());
            }
        }
    }

    @Says(promise = 0, words = "A CHANCE has in each row WEIGHTS of its STATES, 12 together")
    static void twelveTogether(Due due) {
        for (int w0 = 0; w0 <= 12; w0++) {
            SightChart x = Scenes.nodes(13);
            x.weigh(0, 0, w0, (12 - w0) / 2);
            due.is("together", x.weight(0, 0, 0) + x.weight(0, 0, 1) + x.weight(0, 0, 2), 12);
            x.weigh(0, 0, w0, 13 - w0);
            due.is("still", x.weight(0, 0, 0) + x.weight(0, 0, 1) + x.weight(0, 0, 2), 12);
        }
    }

    @Says(promise = 0, words = "(all 12 on STATE 0 at first)")
    static void atFirstAllOnState0(Due due) {
        for (int states = 2; states <= 3; states++) {
            SightChart x = Scenes.nodes(10 + states);
            for (int s = 0; s < states; s++) due.is("STATE " + s, x.weight(0, 0, s), s == 0 ? 12 : 0);
        }
    }

    @Says(promise = 0, words = "the chance of a STATE is its WEIGHT by 12")
    static void chanceIsWeightBy12(Due due) {
        SightChart x = Scenes.nodes(13);
        x.weigh(0, 0, 0, 5);
        int[] by12 = {0, 5, 7};
        for (int s = 0; s < 3; s++) {
            x.chance(0, s);
            due.is("STATE " + s, 12 * x.upper(), by12[s] * x.lower());
        }
    }

    @Says(promise = 0, words = "A WORTH has in each row a number (-100 .. 100; 0 at first)")
    static void numbersOfWorths(Due due) {
        SightChart x = Scenes.nodes(23, 0);
        x.parent(1, 0);
        for (int p = 0; p < 3; p++) due.asks("at first", x, x.worth(1, p, 0), 0);
        for (int v : new int[] {-102, -101, -100, 100, 101, 102}) {
            due.is("v = " + v, x.worth(1, 2, v), Math.abs(v) <= 100 ? 1 : BAD);
        }
    }

    @Says(promise = 0, words = "A CHOICE has no PARENTS, but SIGHTS: CHANCES ahead of it that are seen as it is made")
    static void aChoiceHasSightsAlone(Due due) {
        Supplier<SightChart> chart = () -> Scenes.nodes(12, 22, 0, 22, 12);
        due.refusesAs(UNLIKE, "a PARENT", chart, x -> x.parent(3, 0));
        due.is("a CHANCE", chart.get().sight(3, 0), 1);
        due.refusesAs(UNLIKE, "a CHOICE", chart, x -> x.sight(3, 1));
        due.refusesAs(UNLIKE, "a WORTH", chart, x -> x.sight(3, 2));
        due.refuses(BAD, "a CHANCE behind it", chart, x -> x.sight(3, 4));
    }

    @Says(promise = 0, words = "ROWS 0 .. 3 are rows of 0 to 27 ints, or missing (at first)")
    static void fourRowsOfUpTo27(Due due) {
        for (int r = -1; r <= 4; r++) {
            for (int n : new int[] {-1, 0, 27, 28}) {
                SightChart x = new SightChart();
                boolean there = r >= 0 && r < 4;
                due.is("missing at first, " + r, x.tear(r), there ? SightChart.FINDING : BAD);
                int want = !there || n > 27 ? BAD : n < 0 ? SightChart.FINDING : n;
                due.is("row(" + r + ", " + n + ")", x.row(r, n), want);
            }
        }
        SightChart x = new SightChart();
        x.row(3, 27);
        x.lay(3, 26, LEAST);
        due.asks("any int", x, x.lay(3, 26, GREATEST), LEAST);
        due.asks("any int", x, x.lay(3, 26, 0), GREATEST);
    }
}
