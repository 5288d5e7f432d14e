/** The second part of "Terms", WORLDS and PLANS: for each sentence that names a boundary case a test of its own. */
public final class PlanTermSentencesTest {
    private static final int SPENT = Scenes.SPENT, NONE = Scenes.NONE;

    public static void main(String[] args) throws ReflectiveOperationException {
        Sentences.run(PlanTermSentencesTest.class);
    }

    // ---- WORLDS, what is KNOWN

    @Says(promise = 0, words = "A WORLD: a STATE of each CHANCE and CHOICE; its WORTH: the sum of all WORTHS in it")
    static void worthOfAWorld(Due due) {
        SightChart x = Scenes.nodes(0, 22, 0, 12, 0, 0);
        x.worth(0, 0, 100);
        x.parent(2, 1);
        Scenes.worths(x, 2, -100, -99);
        x.parent(4, 3);
        Scenes.worths(x, 4, 7, 50);
        due.asks("the sum, the last being 0", x, x.end(true), 8);
        x.worth(5, 0, -9);
        due.asks("the sum of all four", x, x.end(false), -1);
        SightChart none = Scenes.nodes(12, 22);
        due.asks("none of them", none, none.end(true), 0);
    }

    @Says(promise = 0, words = "A PLAN tells for each CHOICE, by what is KNOWN, one STATE")
    static void aPlanIsByWhatIsKnown(Due due) {
        SightChart x = Scenes.nodes(13, 23, 0);
        x.weigh(0, 0, 4, 4);
        Scenes.parents(x, 2, 0, 1);
        for (int p = 2; p < 9; p += 2) x.worth(2, p, p < 8 ? 30 : 0);
        due.is("blind", Scenes.does(x, 1, 2), 0);
        x.sight(1, 0);
        for (int s = 0; s < 3; s++) due.is("seen " + s, Scenes.does(x, 1, s), 2 - s);
        due.tells("in all of them", x, x.best(), 30, 1);
        for (int s = 0; s < 3; s++) due.tells("as often each", x, x.chance(1, s), 1, 3);
    }

    /** The last one is best as the first, which is not the one just ahead. */
    @Says(promise = 0, words = "KNOWN at a CHOICE is what all CHOICES ahead of it became")
    static void knownIsWhatAllBecame(Due due) {
        SightChart x = Scenes.nodes(22, 22, 22, 0);
        Scenes.parents(x, 3, 0, 2);
        Scenes.worths(x, 3, 5, 0, 0, 4);
        int[][] wants = {{0, 0, 0}, {1, 0, 1}, {0, 1, 0}, {1, 1, 1}};
        for (int[] w : wants) due.is(w[0] + ", " + w[1], Scenes.does(x, 2, w[0], w[1]), w[2]);
    }

    @Says(promise = 0, words = "and what was SEEN at them and at it")
    static void knownIsWhatWasSeen(Due due) {
        SightChart x = Scenes.coin();
        due.is("seen at one ahead: 0", Scenes.does(x, 2, 0, 0), 0);
        due.is("seen at one ahead: 1", Scenes.does(x, 2, 1, 0), 1);
        x.blind(1, 0);
        due.is("seen at none", Scenes.does(x, 2, 1, 0), 0);
        x.sight(2, 0);
        due.is("seen at it: 1", Scenes.does(x, 2, 1, 0), 1);
        due.is("not KNOWN ahead of that", Scenes.does(x, 1, 99), 0);
    }

    @Says(promise = 0, words = "(a FIRM one has SIGHTS, too)")
    static void aFirmOneSees(Due due) {
        SightChart x = Scenes.coin();
        for (int s = 0; s < 2; s++) {
            x.firm(1, s);
            due.tells("FIRM in " + s, x, x.best(), 6, 1);
            due.is("what it saw", Scenes.does(x, 2, 1, s), 1);
        }
        x.blind(1, 0);
        due.tells("blind", x, x.best(), 4, 1);
    }

    @Says(promise = 0, words = "THE MEAN of a PLAN: the sum over all WORLDS that come about by it, of their WORTH by "
        + "their chance (all chances multiplied)")
    static void meanOfAPlan(Due due) {
        SightChart x = Scenes.nodes(12, 12, 0);
        x.weigh(0, 0, 7, 5);
        x.weigh(1, 0, 11, 1);
        Scenes.parents(x, 2, 0, 1);
        x.worth(2, 3, 1);
        due.tells("5 by 12, 1 by 12", x, x.best(), 5, 144);
        x.worth(2, 2, -1);
        due.tells("less 7 by 12, 1 by 12", x, x.best(), -1, 72);
    }

    // ---- THE BEST PLAN

    /** All numbers from -1 to 1 of three STATES. */
    @Says(promise = 0, words = "THE BEST PLAN: that with the greatest MEAN; at each CHOICE, of STATES that are as good, "
        + "the least")
    static void ofAsGoodStatesTheLeast(Due due) {
        for (int k = 0; k < 27; k++) {
            int[] v = {k % 3 - 1, k / 3 % 3 - 1, k / 9 - 1};
            int want = v[0] >= v[1] && v[0] >= v[2] ? 0 : v[1] >= v[2] ? 1 : 2;
            SightChart x = Scenes.nodes(23, 0);
            x.parent(1, 0);
            Scenes.worths(x, 1, v);
            String call = v[0] + ", " + v[1] + ", " + v[2];
            due.is(call, Scenes.does(x, 0), want);
            due.tells(call + ", its MEAN", x, x.best(), v[want], 1);
            due.tells(call + ", its chance", x, x.chance(0, want), 1, 1);
        }
    }

    @Says(promise = 0, words = "(0 where what is KNOWN can't come about, whatever all CHOICES ahead do that are not FIRM")
    static void zeroWhereItCantComeAbout(Due due) {
        SightChart x = Scenes.coin();
        due.is("it can", Scenes.does(x, 2, 1, 0), 1);
        x.weigh(0, 0, 12, 0);
        due.is("with no WEIGHT it can't", Scenes.does(x, 2, 1, 0), 0);
        x.weigh(0, 0, 11, 1);
        due.is("with the least WEIGHT it can", Scenes.does(x, 2, 1, 0), 1);
        x.firm(1, 1);
        due.is("a FIRM one is not in 0", Scenes.does(x, 2, 1, 0), 0);
        due.is("a FIRM one is in 1", Scenes.does(x, 2, 1, 1), 1);
    }

    @Says(promise = 0, words = "whatever all CHOICES ahead do that are not FIRM")
    static void whateverFreeOnesDo(Due due) {
        SightChart x = Scenes.nodes(22, 12, 22, 0, 0);
        x.parent(1, 0);
        Scenes.weighs(x, 1, 12, 0, 11, 1);
        x.sight(2, 1);
        x.parent(3, 0);
        x.worth(3, 1, -100);
        x.parent(4, 2);
        x.worth(4, 1, 1);
        due.tells("never done", x, x.chance(0, 1), 0, 1);
        due.is("yet it could be", Scenes.does(x, 2, 1, 1), 1);
        due.is("this could never be", Scenes.does(x, 2, 0, 1), 0);
        x.firm(0, 0);
        due.is("and now it can't be", Scenes.does(x, 2, 1, 1), 0);
    }

    @Says(promise = 0, words = "a FIRM one its STATE, always)")
    static void aFirmOneItsStateAlways(Due due) {
        SightChart x = Scenes.coin();
        x.weigh(0, 0, 12, 0);
        x.firm(2, 1);
        due.is("where it is worse", Scenes.does(x, 2, 0, 0), 1);
        due.is("where it can't come about", Scenes.does(x, 2, 1, 0), 1);
        x.firm(1, 1);
        due.is("behind another one in another STATE", Scenes.does(x, 2, 0, 0), 1);
        due.is("another one", Scenes.does(x, 1, 1), 1);
    }

    @Says(promise = 0, words = "THE BEST: its MEAN")
    static void theBestIsTheMean(Due due) {
        SightChart x = Scenes.outing();
        due.tells("going", x, x.best(), 4, 1);
        x.worth(3, 3, 30);
        due.tells("as good as staying", x, x.best(), 0, 1);
        x.worth(3, 3, 29);
        due.tells("staying", x, x.best(), 0, 1);
        Scenes.worths(x, 3, -100, -100);
        due.tells("going, below 0", x, x.best(), -2, 3);
    }

    // ---- FORGETTING PLANS

    @Says(promise = 0, words = "FORGETTING PLANS: only SIGHTS of the CHOICE itself are KNOWN at it")
    static void onlyItsOwnSights(Due due) {
        SightChart x = Scenes.coin();
        due.tells("seen ahead", x, x.bestForgetting(), 4, 1);
        x.sight(2, 0);
        due.tells("seen at it", x, x.bestForgetting(), 6, 1);
        x.blind(1, 0);
        due.tells("seen at it alone", x, x.bestForgetting(), 6, 1);
        x.blind(2, 0);
        due.tells("seen at none", x, x.bestForgetting(), 4, 1);
    }

    /** Two that see nothing of one another and are best as one: the greatest is that of both in 1. */
    @Says(promise = 0, words = "THE BEST of these: the greatest MEAN over all of them")
    static void theGreatestOverAll(Due due) {
        SightChart x = Scenes.nodes(22, 22, 0);
        Scenes.parents(x, 2, 0, 1);
        int[] places = {0, 1, 2, 3};
        for (int p : places) {
            Scenes.worths(x, 2, -100, -100, -100, -100);
            x.worth(2, p, -99);
            due.tells("PLAN " + p, x, x.bestForgetting(), -99, 1);
        }
    }

    /** The PLANS are numbered here, so that the first, the last and each one between is once the best. */
    @Says(promise = 0, words = "THE BEST of these: the greatest MEAN over all of them")
    static void eachOf512IsTried(Due due) {
        for (int plan : new int[] {0, 1, 2, 3, 4, 8, 38, 170, 255, 256, 341, 473, 510, 511}) {
            SightChart x = Scenes.nodes(13, 13, 22, 0);
            x.weigh(0, 0, 4, 4);
            x.weigh(1, 0, 4, 4);
            x.sight(2, 0);
            x.sight(2, 1);
            Scenes.parents(x, 3, 0, 1, 2);
            for (int w = 0; w < 9; w++) x.worth(3, w + 9 * (plan >> w & 1), 90);
            due.tells("PLAN " + plan, x, x.bestForgetting(), 90, 1);
        }
    }

    /** 1 is worth 80 where all three are as seen, 40 or less elsewhere, and 0 is worth 60. */
    @Says(promise = 0, words = "THE BEST of these: the greatest MEAN over all of them")
    static void threeSightsAreKnownApart(Due due) {
        for (int seen = 0; seen < 8; seen++) {
            SightChart x = Scenes.nodes(12, 12, 12, 22, 0, 0);
            for (int n = 0; n < 3; n++) {
                x.weigh(n, 0, 6, 6);
                x.sight(3, n);
            }
            Scenes.parents(x, 4, 0, 1, 3);
            Scenes.parents(x, 5, 2, 3);
            x.worth(4, seen % 4 + 4, 40);
            x.worth(5, seen / 4 + 2, 40);
            for (int p = 0; p < 2; p++) x.worth(5, p, 60);
            due.tells("seen " + seen, x, x.bestForgetting(), 125, 2);
        }
    }

    /** CHOICES with one way each, in all orders, and FIRM ones among them. */
    @Says(promise = 0, words = "THE BEST of these: the greatest MEAN over all of them")
    static void eachOfSeveralChoicesIsTried(Due due) {
        for (int k = 0; k < 36; k++) {
            int[] st = {k % 2, k / 2 % 3, k / 6 % 2, k / 12};
            SightChart x = Scenes.nodes(22, 23, 22, 23, 0, 0);
            Scenes.parents(x, 4, 0, 1);
            x.worth(4, st[0] + 2 * st[1], 7);
            Scenes.parents(x, 5, 2, 3);
            x.worth(5, st[2] + 2 * st[3], 5);
            due.tells("the best of all", x, x.bestForgetting(), 12, 1);
            x.firm(1, st[1]);
            due.tells("one FIRM in its best", x, x.bestForgetting(), 12, 1);
            x.firm(1, (st[1] + 1) % 3);
            due.tells("one FIRM in another one", x, x.bestForgetting(), 5, 1);
            x.firm(1, NONE);
            x.firm(0, st[0]);
            due.tells("the first one FIRM", x, x.bestForgetting(), 12, 1);
        }
    }

    @Says(promise = 0, words = "(SPENT, if there are more than 512)")
    static void spentBeyond512(Due due) {
        SightChart x = Scenes.nodes(13, 13, 22);
        x.sight(2, 0);
        x.sight(2, 1);
        due.is("512", x.bestForgetting(), 1);
        x.node(0, 0);
        x.node(1, 2);
        due.is("WORTHS and CHANCES make none", x.bestForgetting(), 1);
        x.node(2, 2);
        due.is("1024", x.bestForgetting(), SPENT);
        due.is("1024, lost()", x.lost(), SPENT);
        x.blind(2, 0);
        due.is("16", x.bestForgetting(), 1);
    }

    // ---- what is supposed

    @Says(promise = 0, words = "WORTH of a SIGHT: THE BEST with it more, less THE BEST")
    static void aSightMore(Due due) {
        SightChart x = Scenes.outing();
        x.sight(2, 1);
        due.tells("THE BEST", x, x.best(), 13, 1);
        due.tells("with one more, less that", x, x.worthOf(2, 0), 11, 1);
        x.sight(2, 0);
        due.tells("with it", x, x.best(), 24, 1);
    }

    /** Each CHOICE is best as a CHANCE of its own; all is seen at both, but for the one behind. */
    @Says(promise = 0, words = "WORTH of KNOWING: THE BEST with all CHANCES ahead of each CHOICE as its SIGHTS, less "
        + "THE BEST")
    static void knowingAllAhead(Due due) {
        SightChart x = Scenes.nodes(12, 22, 12, 22, 12, 0, 0, 0);
        for (int n = 0; n <= 4; n += 2) x.weigh(n, 0, 6, 6);
        Scenes.parents(x, 5, 0, 1);
        Scenes.worths(x, 5, 10, 0, 0, 10);
        Scenes.parents(x, 6, 2, 3);
        Scenes.worths(x, 6, 20, 0, 0, 20);
        Scenes.parents(x, 7, 4, 3);
        Scenes.worths(x, 7, 3, 0, 0, 3);
        due.tells("the two ahead", x, x.knowing(), 15, 1);
        x.sight(1, 0);
        due.tells("one seen", x, x.knowing(), 10, 1);
        x.sight(3, 2);
        due.tells("both seen", x, x.knowing(), 0, 1);
        x.blind(1, 0);
        x.firm(1, 0);
        due.tells("the other one FIRM", x, x.knowing(), 0, 1);
    }

    @Says(promise = 0, words = "IN HAND is a CHANCE, if it is a CHOICE instead, with as SIGHTS those of its PARENTS that "
        + "are CHANCES: THE BEST then, less THE BEST")
    static void aChoiceInstead(Due due) {
        SightChart x = Scenes.nodes(12, 22, 12, 22, 0);
        x.weigh(0, 0, 6, 6);
        Scenes.parents(x, 2, 0, 1);
        Scenes.parents(x, 4, 0, 2, 3);
        Scenes.worths(x, 4, 10, 0, 0, 0, 0, 0, 0, 10);
        due.tells("as it is", x, x.best(), 5, 1);
        due.tells("it sees its PARENT, and what it was is KNOWN behind it", x, x.inHand(2), 5, 1);
        due.tells("the PARENT itself: 0 is best, and sure", x, x.inHand(0), 5, 1);
        x.firm(3, 0);
        due.tells("one behind it is FIRM", x, x.inHand(2), 0, 1);
    }

    /** Then what its SIGHT was is KNOWN at all behind it, and that PARENTS are CHOICES changes nothing. */
    @Says(promise = 0, words = "with as SIGHTS those of its PARENTS that are CHANCES")
    static void inHandSightsAreKnownBehind(Due due) {
        SightChart x = Scenes.nodes(12, 12, 22, 0);
        x.weigh(0, 0, 6, 6);
        Scenes.parents(x, 3, 0, 2);
        Scenes.worths(x, 3, 10, 0, 0, 10);
        due.tells("no PARENT: nothing is seen", x, x.inHand(1), 0, 1);
        x.parent(1, 0);
        due.tells("its PARENT is seen, and KNOWN behind it", x, x.inHand(1), 5, 1);
    }

    @Says(promise = 0, words = "A SIGHT is NEEDLESS, if THE BEST is as great without it")
    static void asGreatWithout(Due due) {
        SightChart x = Scenes.outing();
        x.sight(2, 1);
        due.is("13 with it, 4 without", x.needless(2, 1), 0);
        Scenes.worths(x, 3, 0, 0, -60, 91);
        due.is("going whatever is told", x.needless(2, 1), 1);
        Scenes.worths(x, 3, 0, 0, -60, 90);
        due.is("rain told: as good", x.needless(2, 1), 1);
        Scenes.worths(x, 3, 0, 0, -60, 89);
        due.is("rain told: staying", x.needless(2, 1), 0);
    }

    // ---- SPAN

    @Says(promise = 0, words = "SPAN of a place of a WORTH's TABLE: all whole numbers from -100 to 100")
    static void spanWithinItsEnds(Due due) {
        Scenes.spans(due, Scenes.either(100, -100), 1, 0, -100, 100);
        Scenes.spans(due, Scenes.either(100, -100), 1, 1, -100, 100);
        Scenes.spans(due, Scenes.either(-100, 100), 1, 0, -100, 99);
        Scenes.spans(due, Scenes.either(-100, 100), 1, 1, -99, 100);
    }

    @Says(promise = 0, words = "with which THE BEST PLAN at the first CHOICE that is not FIRM")
    static void spanOfTheFirstFreeOne(Due due) {
        SightChart x = Scenes.nodes(22, 22, 22, 0, 0);
        x.parent(3, 1);
        Scenes.worths(x, 3, 2, 7);
        x.parent(4, 2);
        Scenes.worths(x, 4, 1, 8);
        Scenes.spans(due, x, 3, 1, -100, 100);
        x.firm(0, 1);
        Scenes.spans(due, x, 3, 1, 3, 100);
        Scenes.spans(due, x, 3, 0, -100, 6);
        Scenes.spans(due, x, 4, 1, -100, 100);
        x.firm(1, 0);
        Scenes.spans(due, x, 3, 1, -100, 100);
        Scenes.spans(due, x, 4, 1, 2, 100);
        x.firm(0, NONE);
        Scenes.spans(due, x, 4, 1, -100, 100);
    }

    @Says(promise = 0, words = "with which THE BEST PLAN at the first CHOICE that is not FIRM")
    static void spanAheadOfAFirmOne(Due due) {
        SightChart x = Scenes.nodes(22, 22, 0);
        Scenes.parents(x, 2, 0, 1);
        Scenes.worths(x, 2, 9, 9, 5, 3);
        x.firm(1, 1);
        Scenes.spans(due, x, 2, 2, 3, 100);
        Scenes.spans(due, x, 2, 3, -100, 5);
        Scenes.spans(due, x, 2, 0, -100, 100);
        Scenes.spans(due, x, 2, 1, -100, 100);
    }

    /** 0 is seen: what is worth something with 1 does not matter. */
    @Says(promise = 0, words = "with what is KNOWN there all 0 (each SIGHT in STATE 0)")
    static void spanWithSightsIn0(Due due) {
        SightChart x = Scenes.nodes(12, 22, 0);
        x.weigh(0, 0, 6, 6);
        x.sight(1, 0);
        Scenes.parents(x, 2, 0, 1);
        Scenes.worths(x, 2, 3, 9, 1, 2);
        Scenes.spans(due, x, 2, 0, 1, 100);
        Scenes.spans(due, x, 2, 2, -100, 3);
        Scenes.spans(due, x, 2, 1, -100, 100);
        Scenes.spans(due, x, 2, 3, -100, 100);
        x.weigh(0, 0, 0, 12);
        for (int p = 0; p < 4; p++) Scenes.spans(due, x, 2, p, -100, 100);
    }

    /** FIRM ones ahead are in their STATES: in others they can't be, and what they saw is in 0. */
    @Says(promise = 0, words = "with what is KNOWN there all 0 (each SIGHT in STATE 0)")
    static void spanBehindFirmOnes(Due due) {
        SightChart x = Scenes.coin();
        x.firm(1, 1);
        Scenes.spans(due, x, 3, 0, 0, 100);
        Scenes.spans(due, x, 3, 2, -100, 8);
        Scenes.spans(due, x, 3, 3, -100, 100);
        x.blind(1, 0);
        Scenes.spans(due, x, 3, 0, 4, 100);
    }

    /** Behind 0 all is worth the greater of 0 and v, behind 1 it is v / 2 + 5: 1 is best from -9 to 9. */
    @Says(promise = 0, words = "begins with the same STATE as now, that hang together with the present one: the least and "
        + "the greatest")
    static void spanThatHangsTogether(Due due) {
        SightChart x = Scenes.nodes(22, 12, 22, 0, 0, 0);
        x.parent(1, 0);
        Scenes.weighs(x, 1, 0, 12, 6, 6);
        Scenes.parents(x, 3, 1, 2);
        Scenes.parents(x, 4, 0, 2);
        x.worth(4, 1, -100);
        x.parent(5, 0);
        x.worth(5, 1, 5);
        int[][] parts = {{0, -9, 9}, {9, -9, 9}, {-9, -9, 9}, {10, 10, 100}, {100, 10, 100}, {-10, -100, -10},
            {-100, -100, -10}};
        for (int[] p : parts) {
            x.worth(3, 3, p[0]);
            Scenes.spans(due, x, 3, 3, p[1], p[2]);
        }
    }
}
