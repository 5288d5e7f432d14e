import java.util.function.Supplier;

/** Promises 14 to 17, plans: for each sentence that names a boundary case a test of its own. */
public final class PlanSentencesTest {
    private static final int BAD = Scenes.BAD, SPENT = Scenes.SPENT, NONE = Scenes.NONE;
    private static final int LEAST = Scenes.LEAST, GREATEST = Scenes.GREATEST;
    private static final int NOTHING = Scenes.NOTHING, BEYOND = Scenes.BEYOND, UNLIKE = Scenes.UNLIKE;
    private static final int SIZE = Scenes.SIZE;
    private static final long WHOLE_OF_SEVEN = 35831808;
    private static final Supplier<SightChart> MIXED = Scenes::mixed;

    public static void main(String[] args) throws ReflectiveOperationException {
        Sentences.run(PlanSentencesTest.class);
    }

    // ---- 14 best

    @Says(promise = 14, words = "THE BEST, told by upper(), lower(): 1")
    static void bestOfNothing(Due due) {
        SightChart x = new SightChart();
        due.tells("no NODES", x, x.best(), 0, 1);
        x = Scenes.nodes(12, 23, 13);
        due.tells("no WORTHS", x, x.best(), 0, 1);
        x = Scenes.nodes(0);
        x.worth(0, 0, -7);
        due.tells("one WORTH alone", x, x.best(), -7, 1);
    }

    @Says(promise = 14, words = "THE BEST, told by upper(), lower(): 1")
    static void bestOfTheGreatestAndLeast(Due due) {
        for (int v : new int[] {100, -100}) {
            SightChart x = new SightChart();
            for (int n = 0; n < 10; n++) {
                x.node(0, 0);
                x.worth(n, 0, v);
            }
            due.tells("ten WORTHS of " + v, x, x.best(), 10L * v, 1);
        }
    }

    /** The upper number is beyond an int here. */
    @Says(promise = 14, words = "THE BEST, told by upper(), lower(): 1")
    static void bestWithTheGreatestNumbers(Due due) {
        SightChart x = Scenes.chain();
        x.worth(7, 1, 1);
        due.tells("1 by all", x, x.best(), 1, WHOLE_OF_SEVEN);
        x.worth(7, 1, -1);
        due.tells("-1 by all", x, x.best(), -1, WHOLE_OF_SEVEN);
        Scenes.worths(x, 7, 100, 99);
        x.worth(8, 0, 100);
        x.worth(9, 0, 100);
        due.tells("nearly 300", x, x.best(), 300 * WHOLE_OF_SEVEN - 1, WHOLE_OF_SEVEN);
        Scenes.worths(x, 7, -100, -99);
        x.worth(8, 0, -100);
        x.worth(9, 0, -100);
        due.tells("nearly -300", x, x.best(), 1 - 300 * WHOLE_OF_SEVEN, WHOLE_OF_SEVEN);
    }

    @Says(promise = 14, words = "THE BEST, told by upper(), lower(): 1")
    static void bestTellsNothingElse(Due due) {
        SightChart x = Scenes.mixed();
        long before = x.digest();
        int asked = x.asked();
        due.is("best()", x.best(), 1);
        due.is("digest() as before", x.digest(), before);
        due.is("asked() as before", x.asked(), asked);
        due.is("finding() as before", x.finding(), Scenes.NOUGHT);
    }

    // ---- 15 does

    /** 0: a CHOICE; 1: a CHANCE that is as it; 2: a CHOICE that sees 1, best in 1, wherever it can be. */
    private static SightChart follower() {
        SightChart x = Scenes.nodes(22, 12, 22, 0);
        x.parent(1, 0);
        Scenes.weighs(x, 1, 12, 0, 0, 12);
        x.sight(2, 1);
        x.parent(3, 2);
        Scenes.worths(x, 3, 0, 5);
        return x;
    }

    @Says(promise = 15, words = "What THE BEST PLAN does at a CHOICE, if what is KNOWN there is told by a ROW")
    static void doesWhereItCantComeAbout(Due due) {
        int[][] wants = {{0, 0, 1}, {0, 1, 0}, {1, 1, 1}, {1, 0, 0}};
        for (int[] w : wants) due.is(w[0] + " and " + w[1], Scenes.does(follower(), 2, w[0], w[1]), w[2]);
    }

    @Says(promise = 15, words = "What THE BEST PLAN does at a CHOICE, if what is KNOWN there is told by a ROW")
    static void doesWhereTheBestPlanNeverComes(Due due) {
        SightChart x = Scenes.nodes(22, 22, 0);
        Scenes.parents(x, 2, 0, 1);
        Scenes.worths(x, 2, 10, -50, 0, -40);
        due.is("the first", Scenes.does(x, 0), 0);
        due.is("behind the best", Scenes.does(x, 1, 0), 0);
        due.is("behind another one", Scenes.does(x, 1, 1), 1);
    }

    @Says(promise = 15, words = "What THE BEST PLAN does at a CHOICE, if what is KNOWN there is told by a ROW")
    static void doesByTheLeastDifference(Due due) {
        for (int v : new int[] {1, 0, -1}) {
            SightChart x = Scenes.shorterChain();
            x.worth(7, 3, v);
            due.is(v + " by 2985984", Scenes.does(x, 6, 0, 0, 0, 0, 0, 0), v > 0 ? 1 : 0);
        }
    }

    @Says(promise = 15, words = "STATES of all NODES ahead, by numbers")
    static void rowsAreByNumbersOfNodes(Due due) {
        SightChart x = Scenes.nodes(0, 12, 0, 12, 23, 0);
        Scenes.weighs(x, 1, 6, 6);
        Scenes.weighs(x, 3, 6, 6);
        x.sight(4, 1);
        x.sight(4, 3);
        Scenes.parents(x, 5, 1, 3, 4);
        for (int p = 0; p < 4; p++) x.worth(5, p + 4 * new int[] {0, 2, 1, 2}[p], 10);
        int[][] wants = {{0, 0, 0}, {1, 0, 2}, {0, 1, 1}, {1, 1, 2}};
        for (int[] w : wants) due.is(w[0] + " and " + w[1], Scenes.does(x, 4, 9, w[0], 9, w[1]), w[2]);
    }

    @Says(promise = 15, words = "(places of NODES that are not KNOWN, or WORTHS, are not looked at)")
    static void unknownPlacesAreNotLookedAt(Due due) {
        for (int v : new int[] {LEAST, -1, 0, 1, 2, 3, GREATEST}) {
            SightChart x = Scenes.nodes(12, 0, 12, 22, 0);
            Scenes.weighs(x, 0, 6, 6);
            Scenes.weighs(x, 2, 6, 6);
            x.sight(3, 2);
            Scenes.parents(x, 4, 2, 3);
            Scenes.worths(x, 4, 1, 0, 0, 1);
            due.is("0 seen, beside " + v, Scenes.does(x, 3, v, v, 0), 0);
            due.is("1 seen, beside " + v, Scenes.does(x, 3, v, v, 1), 1);
            due.is("places of itself and behind it, " + v, Scenes.does(x, 3, v, v, 1, v, v, v), 1);
        }
    }

    @Says(promise = 15, words = "BAD;")
    static void doesBad(Due due) {
        for (int n : Scenes.NO_NODE) {
            due.refuses(BAD, "does(" + n + ", 0)", MIXED, x -> x.does(n, Scenes.TEN));
            due.refuses(BAD, "ahead of NOTHING", MIXED, x -> x.does(n, Scenes.MISSING));
        }
        for (int r : Scenes.NO_ROW) {
            due.refuses(BAD, "does(3, " + r + ")", MIXED, x -> x.does(Scenes.FREE, r));
            due.refuses(BAD, "ahead of UNLIKE, " + r, MIXED, x -> x.does(0, r));
            due.refuses(BAD, "a FIRM one, " + r, MIXED, x -> x.does(Scenes.MADE, r));
        }
    }

    @Says(promise = 15, words = "UNLIKE: no CHOICE")
    static void doesUnlike(Due due) {
        for (int n : new int[] {0, 1, 2, 5, 7}) {
            for (int row = 0; row < 4; row++) {
                int r = row;
                due.refusesAs(UNLIKE, "does(" + n + ", " + r + ")", MIXED, x -> x.does(n, r));
            }
        }
    }

    @Says(promise = 15, words = "NOTHING")
    static void doesByAMissingRow(Due due) {
        for (int n : Scenes.CHOICES) {
            due.refusesAs(NOTHING, "does(" + n + ", 2)", MIXED, x -> x.does(n, Scenes.MISSING));
        }
        due.refusesAs(NOTHING, "nothing ahead", () -> Scenes.nodes(22), x -> x.does(0, 0));
    }

    @Says(promise = 15, words = "SIZE: the ROW is shorter")
    static void doesByAShorterRow(Due due) {
        for (int choice : Scenes.CHOICES) {
            for (int size = 0; size <= 27; size++) {
                int n = size;
                Supplier<SightChart> chart = () -> withRow(n);
                String call = "does(" + choice + ", 2) with " + n;
                if (n < choice) due.refusesAs(SIZE, call, chart, x -> x.does(choice, Scenes.MISSING));
                else due.is(call, chart.get().does(choice, Scenes.MISSING) >= 0 ? 1 : 0, 1);
            }
        }
        SightChart x = Scenes.either(1, 2);
        x.row(0, 0);
        due.is("nothing ahead, an empty ROW", x.does(0, 0), 1);
    }

    private static SightChart withRow(int size) {
        SightChart x = Scenes.mixed();
        x.row(Scenes.MISSING, size);
        return x;
    }

    @Says(promise = 15, words = "SIZE: the ROW is shorter")
    static void doesShorterAheadOfBeyond(Due due) {
        Supplier<SightChart> chart = () -> {
            SightChart x = Scenes.mixed();
            Scenes.lays(x, Scenes.MISSING, -1, 9);
            return x;
        };
        for (int n : Scenes.CHOICES) due.refusesAs(SIZE, "CHOICE " + n, chart, x -> x.does(n, Scenes.MISSING));
    }

    /** KNOWN at the last CHOICE: 0 (2 STATES), 1 (3), the CHOICES 3 (2) and 4 (3, FIRM). */
    @Says(promise = 15, words = "BEYOND: a STATE that there is not")
    static void doesByStatesThatThereAreNot(Due due) {
        int[] states = {2, 3, 0, 2, 3};
        for (int node : new int[] {0, 1, 3, 4}) {
            for (int s : new int[] {LEAST, -1, 0, 1, 2, 3, 32, GREATEST}) {
                Supplier<SightChart> chart = () -> {
                    SightChart x = Scenes.mixed();
                    x.lay(Scenes.TEN, node, s);
                    return x;
                };
                String call = "STATE " + s + " of NODE " + node;
                boolean is = s >= 0 && s < states[node];
                if (is) due.is(call, chart.get().does(Scenes.LAST_CHOICE, Scenes.TEN) >= 0 ? 1 : 0, 1);
                else due.refusesAs(BEYOND, call, chart, x -> x.does(Scenes.LAST_CHOICE, Scenes.TEN));
            }
        }
    }

    @Says(promise = 15, words = "BEYOND: a STATE that there is not")
    static void doesOfAFirmOneIsRefused(Due due) {
        Supplier<SightChart> chart = () -> {
            SightChart x = Scenes.coin();
            x.firm(2, 1);
            Scenes.lays(x, 0, 2, 0);
            Scenes.lays(x, 1, 0);
            return x;
        };
        due.refusesAs(BEYOND, "a STATE that there is not", chart, x -> x.does(2, 0));
        due.refusesAs(SIZE, "a shorter ROW", chart, x -> x.does(2, 1));
        due.refusesAs(NOTHING, "a missing ROW", chart, x -> x.does(2, 2));
    }

    // ---- 16 bestForgetting

    @Says(promise = 16, words = "THE BEST of FORGETTING PLANS, told by upper(), lower(): 1")
    static void forgettingWithoutChoices(Due due) {
        SightChart x = new SightChart();
        due.tells("no NODES", x, x.bestForgetting(), 0, 1);
        x = Scenes.chain();
        x.worth(7, 1, -1);
        due.tells("CHANCES alone", x, x.bestForgetting(), -1, WHOLE_OF_SEVEN);
    }

    @Says(promise = 16, words = "THE BEST of FORGETTING PLANS, told by upper(), lower(): 1")
    static void forgettingWhatWasSeenAhead(Due due) {
        SightChart x = Scenes.coin();
        due.tells("remembering", x, x.best(), 6, 1);
        due.tells("forgetting", x, x.bestForgetting(), 4, 1);
        x.sight(2, 0);
        due.tells("seen at the CHOICE itself", x, x.bestForgetting(), 6, 1);
    }

    @Says(promise = 16, words = "THE BEST of FORGETTING PLANS, told by upper(), lower(): 1")
    static void forgettingBelow0(Due due) {
        SightChart x = Scenes.either(-100, -99);
        due.tells("the greater one", x, x.bestForgetting(), -99, 1);
        x = Scenes.either(-100, -100);
        due.tells("as good", x, x.bestForgetting(), -100, 1);
    }

    /** What was asked of the chart as it was before leaves nothing behind. */
    @Says(promise = 16, words = "THE BEST of FORGETTING PLANS, told by upper(), lower(): 1")
    static void forgettingAgainAfterAChange(Due due) {
        SightChart x = Scenes.nodes(22, 23, 0, 0);
        x.parent(2, 0);
        Scenes.worths(x, 2, 1, 4);
        x.parent(3, 1);
        Scenes.worths(x, 3, 0, 0, 50);
        due.tells("both", x, x.bestForgetting(), 54, 1);
        x.firm(0, 0);
        due.tells("the first one FIRM", x, x.bestForgetting(), 51, 1);
        x.firm(0, NONE);
        due.tells("both again", x, x.bestForgetting(), 54, 1);
        x.node(2, 3);
        due.tells("one more", x, x.bestForgetting(), 54, 1);
    }

    /** A chart with these NODES, each pair being a CHOICE and a CHANCE that it sees. */
    private static SightChart seeing(int[] codes, int[][] sights) {
        SightChart x = Scenes.nodes(codes);
        for (int[] s : sights) x.sight(s[0], s[1]);
        x.chance(0, 0);
        return x;
    }

    private static void plans(Due due, int[] codes, int[][] sights, int answer) {
        Supplier<SightChart> chart = () -> seeing(codes, sights);
        if (answer == SPENT) {
            due.refuses(SPENT, "bestForgetting()", chart, SightChart::bestForgetting);
            due.refuses(SPENT, "lost()", chart, SightChart::lost);
            return;
        }
        due.is("bestForgetting()", chart.get().bestForgetting(), answer);
        due.is("lost()", chart.get().lost(), answer);
    }

    /** With numbers of STATES 2 and 3 there are 486, 512 and then 576 PLANS, but none between. */
    @Says(promise = 16, words = "SPENT")
    static void forgettingSpentBeyond512(Due due) {
        plans(due, new int[] {12, 13, 23, 23, 22}, new int[][] {{2, 0}, {3, 1}}, 1);
        plans(due, new int[] {13, 13, 22}, new int[][] {{2, 0}, {2, 1}}, 1);
        plans(due, new int[] {12, 12, 12, 22, 22}, new int[][] {{3, 0}, {3, 1}, {3, 2}}, 1);
        plans(due, new int[] {12, 13, 23, 22}, new int[][] {{2, 0}, {3, 0}, {3, 1}}, SPENT);
        plans(due, new int[] {13, 23, 23}, new int[][] {{1, 0}, {2, 0}}, SPENT);
        plans(due, new int[] {13, 13, 22, 22}, new int[][] {{2, 0}, {2, 1}}, SPENT);
    }

    /** 2 multiplied 32 and 64 times, 3 multiplied 81 times: these run over, some of them to 0. */
    @Says(promise = 16, words = "SPENT")
    static void forgettingSpentWhereTheNumberRunsOver(Due due) {
        plans(due, new int[] {12, 12, 12, 12, 12, 22}, new int[][] {{5, 0}, {5, 1}, {5, 2}, {5, 3}, {5, 4}}, SPENT);
        plans(due, new int[] {12, 12, 12, 12, 12, 12, 22},
            new int[][] {{6, 0}, {6, 1}, {6, 2}, {6, 3}, {6, 4}, {6, 5}}, SPENT);
        plans(due, new int[] {13, 13, 13, 13, 23}, new int[][] {{4, 0}, {4, 1}, {4, 2}, {4, 3}}, SPENT);
    }

    /** It always is one of its STATES: there is one way to tell it, whatever it sees. */
    @Says(promise = 16, words = "SPENT")
    static void forgettingAFirmOneIsOneWay(Due due) {
        SightChart x = seeing(new int[] {13, 13, 22, 23}, new int[][] {{2, 0}, {2, 1}, {3, 0}, {3, 1}});
        due.is("more than 512", x.bestForgetting(), SPENT);
        x.firm(3, 1);
        due.is("just 512", x.bestForgetting(), 1);
        due.is("just 512, lost", x.lost(), 1);
        x.firm(3, NONE);
        due.is("more than 512 again", x.bestForgetting(), SPENT);
    }

    // ---- 17 lost

    @Says(promise = 17, words = "THE BEST less THE BEST of FORGETTING PLANS, told by upper(), lower(): 1")
    static void nothingLost(Due due) {
        SightChart x = new SightChart();
        due.tells("no NODES", x, x.lost(), 0, 1);
        x = Scenes.either(-100, -99);
        due.tells("nothing to forget", x, x.lost(), 0, 1);
        x = Scenes.chain();
        x.worth(7, 1, 1);
        due.tells("no CHOICES", x, x.lost(), 0, 1);
    }

    /** 1 is best as the coin, for 10; 2 as 1, for 6: it forgets what 1 became. */
    @Says(promise = 17, words = "THE BEST less THE BEST of FORGETTING PLANS, told by upper(), lower(): 1")
    static void lostByForgettingWhatWasDone(Due due) {
        SightChart x = Scenes.nodes(12, 22, 22, 0, 0);
        Scenes.weighs(x, 0, 6, 6);
        x.sight(1, 0);
        Scenes.parents(x, 3, 0, 1);
        Scenes.worths(x, 3, 10, 0, 0, 10);
        Scenes.parents(x, 4, 1, 2);
        Scenes.worths(x, 4, 6, 0, 0, 6);
        due.tells("remembering", x, x.best(), 16, 1);
        due.tells("forgetting", x, x.bestForgetting(), 13, 1);
        due.tells("lost", x, x.lost(), 3, 1);
        Scenes.worths(x, 4, 5, 0, 0, 5);
        due.tells("a fraction", x, x.lost(), 5, 2);
    }

    @Says(promise = 17, words = "SPENT")
    static void lostSpentBeyond512(Due due) {
        Supplier<SightChart> chart = () -> {
            SightChart x = seeing(new int[] {12, 13, 23, 22, 0}, new int[][] {{2, 0}, {3, 0}, {3, 1}});
            x.worth(4, 0, 5);
            x.best();
            return x;
        };
        due.refuses(SPENT, "576 PLANS", chart, SightChart::lost);
        SightChart x = chart.get();
        x.blind(2, 0);
        due.tells("192 PLANS", x, x.lost(), 0, 1);
    }
}
