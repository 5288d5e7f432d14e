/** Promises 14 to 24: plans. The numbers that are due were worked out by hand. */
public final class PlansTest {
    private static final int NOTHING = 1, BEYOND = 2, UNLIKE = 3, SIZE = 5;
    private static final int[] NO_NODE_OF_4 = {-1, 4, Integer.MAX_VALUE, Integer.MIN_VALUE};
    private static final Due DUE = new Due("PlansTest");

    public static void main(String[] args) {
        bests();
        does();
        doesRefused();
        ties();
        forgetting();
        tooManyPlans();
        worthsOfSights();
        knowing();
        inHand();
        needless();
        spans();
        spansBehindFirm();
        spansRefused();
        chances();
        ends();
        refusedTellsNothing();
        mostWorlds();
        DUE.end();
    }

    /** 0: rain (1/3) or none; 1: a forecast, right in 3 of 4; 2: stay, go; 3: what that is worth. */
    private static SightChart outing() {
        SightChart x = new SightChart();
        x.node(1, 2);
        x.weigh(0, 0, 4, 8);
        x.node(1, 2);
        x.parent(1, 0);
        x.weigh(1, 0, 9, 3);
        x.weigh(1, 1, 3, 9);
        x.node(2, 2);
        x.node(0, 0);
        x.parent(3, 0);
        x.parent(3, 2);
        x.worth(3, 2, -60);
        x.worth(3, 3, 36);
        return x;
    }

    /** 0: a coin; 1: a CHOICE that sees it; 2: a CHOICE that sees nothing; they are to be alike. */
    private static SightChart remembering() {
        SightChart x = new SightChart();
        x.node(1, 2);
        x.weigh(0, 0, 6, 6);
        x.node(2, 2);
        x.sight(1, 0);
        x.node(2, 2);
        x.node(0, 0);
        x.parent(3, 0);
        x.parent(3, 2);
        x.worth(3, 0, 8);
        x.worth(3, 3, 4);
        return x;
    }

    private static void bests() {
        SightChart x = new SightChart();
        DUE.tells("14 no NODES", x, x.best(), 0, 1);
        x = outing();
        DUE.tells("14 going", x, x.best(), 4, 1);
        x.worth(3, 3, 35);
        DUE.tells("14 a fraction", x, x.best(), 10, 3);
        x.worth(3, 3, 30);
        DUE.tells("14 as good", x, x.best(), 0, 1);
        x.firm(2, 1);
        x.worth(3, 3, 29);
        DUE.tells("14 below 0", x, x.best(), -2, 3);
        x.sight(2, 1);
        DUE.tells("14 a FIRM one does not look", x, x.best(), -2, 3);
        x.firm(2, SightChart.NONE);
        // clear told: 1/3 * 1/4 * -60 + 2/3 * 3/4 * 29 = -5 + 14.5
        DUE.tells("14 with a SIGHT", x, x.best(), 19, 2);
        x.node(0, 0);
        x.worth(4, 0, -100);
        DUE.tells("14 all WORTHS together", x, x.best(), -181, 2);
        bestOfSeven();
    }

    /** The greatest lower number: seven CHANCES of 1 in 12 each. */
    private static void bestOfSeven() {
        SightChart x = new SightChart();
        for (int n = 0; n < 7; n++) {
            x.node(1, 2);
            x.weigh(n, 0, 11, 1);
        }
        DUE.is("14 seven", x.count(4), 128);
        for (int n = 7; n < 10; n++) x.node(0, 0);
        for (int p = 0; p < 3; p++) x.parent(7, p);
        x.worth(7, 7, 1);
        DUE.tells("14 three of seven", x, x.best(), 1, 1728);
        x.worth(7, 7, -100);
        x.worth(8, 0, 100);
        x.worth(9, 0, 100);
        DUE.tells("14 200 less 100 by 1728", x, x.best(), 200 * 432 - 25, 432);
        DUE.tells("23 the first", x, x.chance(0, 1), 1, 12);
    }

    private static void does() {
        SightChart x = outing();
        x.row(0, 2);
        DUE.is("15 blind: going", x.does(2, 0), 1);
        x.sight(2, 1);
        DUE.is("15 rain told: staying", x.does(2, 0), 0);
        x.lay(0, 1, 1);
        DUE.is("15 none told: going", x.does(2, 0), 1);
        x.lay(0, 0, 77);
        DUE.is("15 what is not KNOWN is not looked at", x.does(2, 0), 1);
        x.weigh(1, 0, 12, 0);
        x.weigh(1, 1, 12, 0);
        DUE.is("15 what can't come about", x.does(2, 0), 0);
        x.lay(0, 1, 0);
        DUE.is("15 what always comes about", x.does(2, 0), 1);
        x.firm(2, 0);
        DUE.is("15 FIRM", x.does(2, 0), 0);
        x.firm(2, 1);
        x.lay(0, 1, 1);
        DUE.is("15 FIRM, where it can't come about", x.does(2, 0), 1);
        doesByMemory();
    }

    private static void doesByMemory() {
        SightChart x = remembering();
        x.row(3, 27);
        DUE.is("15 seen by the one ahead: 0", x.does(2, 3), 0);
        x.lay(3, 0, 1);
        DUE.is("15 seen by the one ahead: 1", x.does(2, 3), 1);
        x.lay(3, 1, 1);
        DUE.is("15 whatever it did", x.does(2, 3), 1);
        x.firm(1, 0);
        DUE.is("15 a FIRM one in another STATE", x.does(2, 3), 0);
        x.lay(3, 1, 0);
        DUE.is("15 a FIRM one in its STATE sees, too", x.does(2, 3), 1);
    }

    private static void doesRefused() {
        SightChart x = outing();
        x.sight(2, 1);
        x.row(0, 2);
        x.row(1, 1);
        long before = x.digest();
        for (int n : NO_NODE_OF_4) DUE.is("15 no NODE", x.does(n, 0), SightChart.BAD);
        for (int r : NO_NODE_OF_4) DUE.is("15 no ROW", x.does(2, r), SightChart.BAD);
        DUE.is("15 BAD ahead of UNLIKE", x.does(0, 4), SightChart.BAD);
        DUE.finds("15 a CHANCE", x, x.does(0, 3), UNLIKE);
        DUE.finds("15 a WORTH", x, x.does(3, 0), UNLIKE);
        DUE.finds("15 missing", x, x.does(2, 2), NOTHING);
        DUE.finds("15 shorter", x, x.does(2, 1), SIZE);
        for (int s : new int[] {-1, 2, Integer.MAX_VALUE, Integer.MIN_VALUE}) {
            x.lay(0, 1, s);
            DUE.finds("15 no STATE", x, x.does(2, 0), BEYOND);
        }
        x.firm(2, 1);
        DUE.finds("15 no STATE, FIRM", x, x.does(2, 0), BEYOND);
        DUE.finds("15 shorter, FIRM", x, x.does(2, 1), SIZE);
        x.firm(2, SightChart.NONE);
        x.lay(0, 1, 0);
        DUE.is("15 nothing changed", x.digest(), before);
        x = new SightChart();
        x.node(2, 2);
        x.row(0, 0);
        DUE.is("15 nothing ahead, an empty ROW", x.does(0, 0), 0);
    }

    /** Of STATES that are as good, the least; also where the best of them is not STATE 0. */
    private static void ties() {
        SightChart x = new SightChart();
        x.node(2, 3);
        x.node(0, 0);
        x.parent(1, 0);
        x.row(0, 0);
        DUE.is("15 all as good", x.does(0, 0), 0);
        x.worth(1, 1, 5);
        x.worth(1, 2, 5);
        DUE.is("15 1 and 2 as good", x.does(0, 0), 1);
        DUE.tells("23 of these, the least", x, x.chance(0, 1), 1, 1);
        x.worth(1, 2, 6);
        DUE.is("15 the last", x.does(0, 0), 2);
        x.worth(1, 0, 6);
        DUE.is("15 0 and 2 as good", x.does(0, 0), 0);
    }

    private static void forgetting() {
        SightChart x = new SightChart();
        DUE.tells("16 no NODES", x, x.bestForgetting(), 0, 1);
        x = remembering();
        DUE.tells("16 remembering", x, x.best(), 6, 1);
        DUE.tells("16 forgetting", x, x.bestForgetting(), 4, 1);
        DUE.tells("17 lost", x, x.lost(), 2, 1);
        x.sight(2, 0);
        DUE.tells("16 seen again", x, x.bestForgetting(), 6, 1);
        DUE.tells("17 nothing lost", x, x.lost(), 0, 1);
        x.blind(2, 0);
        x.worth(3, 3, 5);
        DUE.tells("17 a fraction", x, x.lost(), 5, 2);
        x.firm(2, 1);
        DUE.tells("16 FIRM", x, x.bestForgetting(), 5, 2);
        DUE.tells("17 FIRM", x, x.lost(), 0, 1);
    }

    private static void tooManyPlans() {
        SightChart x = new SightChart();
        x.node(1, 3);
        x.node(1, 3);
        x.weigh(0, 0, 4, 4);
        x.weigh(1, 0, 4, 4);
        x.node(2, 2);
        x.sight(2, 0);
        x.sight(2, 1);
        x.node(0, 0);
        for (int p = 0; p < 3; p++) x.parent(3, p);
        x.worth(3, 17, 9);
        DUE.tells("16 just 512 plans", x, x.bestForgetting(), 1, 1);
        DUE.tells("17 just 512 plans", x, x.lost(), 0, 1);
        x.node(2, 2);
        x.best();
        DUE.is("16 1024 plans", x.bestForgetting(), SightChart.SPENT);
        DUE.is("17 1024 plans", x.lost(), SightChart.SPENT);
        DUE.is("16 told as before", x.upper(), 1);
        x.firm(4, 1);
        DUE.tells("16 a FIRM one has one way", x, x.bestForgetting(), 1, 1);
        x.firm(4, SightChart.NONE);
        x.firm(2, 1);
        DUE.tells("16 a FIRM one with SIGHTS has one way", x, x.bestForgetting(), 1, 1);
        x = new SightChart();
        for (int n = 0; n < 4; n++) x.node(1, 3);
        x.node(2, 3);
        for (int n = 0; n < 4; n++) x.sight(4, n);
        DUE.is("16 far more", x.bestForgetting(), SightChart.SPENT);
        DUE.is("17 far more", x.lost(), SightChart.SPENT);
        x.blind(4, 0);
        x.blind(4, 1);
        DUE.is("16 19683", x.bestForgetting(), SightChart.SPENT);
        x.blind(4, 2);
        DUE.is("16 27", x.bestForgetting(), 1);
    }

    private static void worthsOfSights() {
        SightChart x = outing();
        long before = x.digest();
        // clear told: -5 + 1/2 * 36 = 13; less 4
        DUE.tells("18 the forecast", x, x.worthOf(2, 1), 9, 1);
        // going in 2 of 3: 24; less 4
        DUE.tells("18 the rain itself", x, x.worthOf(2, 0), 20, 1);
        DUE.is("18 nothing changed", x.digest(), before);
        x.firm(2, 1);
        DUE.tells("18 of a FIRM one", x, x.worthOf(2, 0), 0, 1);
        x = remembering();
        x.firm(1, 0);
        x.blind(1, 0);
        DUE.tells("18 of a FIRM one, for one behind it", x, x.worthOf(1, 0), 2, 1);
    }

    private static void knowing() {
        SightChart x = outing();
        long before = x.digest();
        DUE.tells("19 knowing all", x, x.knowing(), 20, 1);
        x.sight(2, 1);
        DUE.tells("19 more than the forecast", x, x.knowing(), 11, 1);
        x.blind(2, 1);
        DUE.is("19 nothing changed", x.digest(), before);
        x.firm(2, 0);
        DUE.tells("19 FIRM", x, x.knowing(), 0, 1);
        x = new SightChart();
        x.node(2, 2);
        x.node(1, 2);
        x.weigh(1, 0, 6, 6);
        x.node(0, 0);
        x.parent(2, 0);
        x.parent(2, 1);
        x.worth(2, 0, 10);
        x.worth(2, 3, 10);
        DUE.tells("19 CHANCES behind stay unknown", x, x.knowing(), 0, 1);
    }

    private static void inHand() {
        SightChart x = outing();
        long before = x.digest();
        // no rain, and going: 36; less 4
        DUE.tells("20 the rain", x, x.inHand(0), 32, 1);
        // the forecast in hand sees the rain, and what it saw is KNOWN then: 24; less 4
        DUE.tells("20 the forecast", x, x.inHand(1), 20, 1);
        DUE.is("20 nothing changed", x.digest(), before);
        for (int n : NO_NODE_OF_4) DUE.is("20 no NODE", x.inHand(n), SightChart.BAD);
        DUE.finds("20 a CHOICE", x, x.inHand(2), UNLIKE);
        DUE.finds("20 a WORTH", x, x.inHand(3), UNLIKE);
        x.firm(2, 1);
        DUE.finds("20 a FIRM one", x, x.inHand(2), UNLIKE);
        DUE.tells("20 going anyway", x, x.inHand(0), 32, 1);
        x.worth(3, 3, 35);
        DUE.tells("20 a fraction", x, x.inHand(0), 95, 3);
    }

    private static void needless() {
        SightChart x = outing();
        x.sight(2, 0);
        x.sight(2, 1);
        long before = x.digest();
        x.best();
        DUE.is("21 the forecast, with the rain seen", x.needless(2, 1), 1);
        DUE.is("21 the rain", x.needless(2, 0), 0);
        DUE.is("21 nothing told", x.upper(), 24);
        DUE.is("21 nothing changed", x.digest(), before);
        x.blind(2, 0);
        DUE.is("21 the forecast alone", x.needless(2, 1), 0);
        x.firm(2, 0);
        DUE.is("21 of a FIRM one", x.needless(2, 1), 1);
        x = remembering();
        DUE.is("21 for one behind it", x.needless(1, 0), 0);
        x.sight(2, 0);
        DUE.is("21 if that one sees it itself", x.needless(1, 0), 1);
    }

    private static void spans() {
        SightChart x = outing();
        long before = x.digest();
        // going is better while 2/3 v > 20
        DUE.asks("22 least", x, x.span(3, 3, false), 31);
        DUE.asks("22 greatest", x, x.span(3, 3, true), 100);
        // and while -1/3 v < 24
        DUE.asks("22 least", x, x.span(3, 2, false), -71);
        DUE.asks("22 greatest", x, x.span(3, 2, true), 100);
        // staying with rain: 1/3 v < 4, or it is as good
        DUE.asks("22 greatest", x, x.span(3, 0, true), 11);
        DUE.asks("22 least", x, x.span(3, 0, false), -100);
        DUE.is("22 nothing changed", x.digest(), before);
        x.sight(2, 1);
        // rain told: 1/4 of 12 parts rain and clear 2/12: -15 + v/6 > 0 begins to go
        DUE.asks("22 the SIGHT is in STATE 0", x, x.span(3, 3, true), 90);
        DUE.asks("22 the SIGHT is in STATE 0", x, x.span(3, 3, false), -100);
        x.weigh(1, 0, 0, 12);
        x.weigh(1, 1, 0, 12);
        DUE.asks("22 what is KNOWN can't come about", x, x.span(3, 3, true), 100);
        DUE.asks("22 what is KNOWN can't come about", x, x.span(3, 3, false), -100);
        spanInParts();
    }

    /** Behind 0 all is worth v / 2 + 5, behind 1 the greater of 0 and v: 0 is best from -10 to 10. */
    private static void spanInParts() {
        SightChart x = new SightChart();
        x.node(2, 2);
        x.node(1, 2);
        x.parent(1, 0);
        x.weigh(1, 0, 6, 6);
        x.weigh(1, 1, 0, 12);
        x.node(2, 2);
        x.node(0, 0);
        x.parent(3, 1);
        x.parent(3, 2);
        x.node(0, 0);
        x.parent(4, 0);
        x.parent(4, 2);
        x.worth(4, 2, 100);
        x.node(0, 0);
        x.parent(5, 0);
        x.worth(5, 0, -95);
        int[][] parts = {{50, 11, 100}, {11, 11, 100}, {-50, -100, -11}, {-100, -100, -11}, {100, 11, 100},
            {10, -10, 10}, {0, -10, 10}, {-10, -10, 10}};
        for (int[] p : parts) {
            x.worth(3, 3, p[0]);
            DUE.asks("22 least, from " + p[0], x, x.span(3, 3, false), p[1]);
            DUE.asks("22 greatest, from " + p[0], x, x.span(3, 3, true), p[2]);
        }
    }

    private static void spansBehindFirm() {
        SightChart x = remembering();
        x.firm(1, 1);
        // the FIRM one sees the coin in STATE 0: then 0 is 8, 1 is the place 2
        DUE.asks("22 greatest behind a FIRM one", x, x.span(3, 2, true), 8);
        DUE.asks("22 least behind a FIRM one", x, x.span(3, 0, false), 0);
        DUE.asks("22 what is behind coin 1", x, x.span(3, 3, true), 100);
        x.blind(1, 0);
        // blind: 0 is 8, 1 is 4 and the place 2
        DUE.asks("22 greatest behind a blind one", x, x.span(3, 2, true), 4);
        x.firm(2, 0);
        DUE.is("22 all FIRM", x.span(3, 2, true), SightChart.STATE);
    }

    private static void spansRefused() {
        SightChart x = outing();
        x.worth(3, 3, 36);
        long before = x.digest();
        for (int n : NO_NODE_OF_4) DUE.is("22 no NODE", x.span(n, 0, true), SightChart.BAD);
        DUE.finds("22 a CHANCE", x, x.span(0, 0, true), UNLIKE);
        DUE.finds("22 a CHOICE", x, x.span(2, 9, false), UNLIKE);
        for (int p : NO_NODE_OF_4) DUE.finds("22 no place", x, x.span(3, p, true), BEYOND);
        DUE.is("22 asked() as before", x.asked(), 36);
        x.firm(2, 1);
        DUE.finds("22 UNLIKE ahead of STATE", x, x.span(2, 0, true), UNLIKE);
        DUE.finds("22 BEYOND ahead of STATE", x, x.span(3, 4, true), BEYOND);
        DUE.is("22 STATE", x.span(3, 0, true), SightChart.STATE);
        DUE.is("22 BAD ahead of STATE", x.span(4, 0, true), SightChart.BAD);
        x.firm(2, SightChart.NONE);
        DUE.is("22 nothing changed", x.digest(), before);
    }

    private static void chances() {
        SightChart x = outing();
        x.sight(2, 1);
        DUE.tells("23 a CHANCE", x, x.chance(0, 0), 1, 3);
        DUE.tells("23 a CHANCE by another one", x, x.chance(1, 1), 7, 12);
        DUE.tells("23 a CHOICE", x, x.chance(2, 1), 7, 12);
        DUE.tells("23 a CHOICE", x, x.chance(2, 0), 5, 12);
        x.firm(2, 0);
        DUE.tells("23 a FIRM one", x, x.chance(2, 0), 1, 1);
        DUE.tells("23 never", x, x.chance(2, 1), 0, 1);
        for (int n : NO_NODE_OF_4) DUE.is("23 no NODE", x.chance(n, 0), SightChart.BAD);
        DUE.finds("23 a WORTH", x, x.chance(3, 0), UNLIKE);
        DUE.finds("23 a WORTH", x, x.chance(3, 9), UNLIKE);
        for (int s : new int[] {-1, 2, Integer.MAX_VALUE, Integer.MIN_VALUE}) {
            DUE.finds("23 no STATE", x, x.chance(0, s), BEYOND);
            DUE.finds("23 no STATE", x, x.chance(2, s), BEYOND);
        }
        DUE.tells("23 a CHANCE still", x, x.chance(0, 1), 2, 3);
    }

    private static void ends() {
        SightChart x = new SightChart();
        DUE.asks("24 no NODES", x, x.end(false), 0);
        x = outing();
        DUE.asks("24 greatest", x, x.end(true), 36);
        DUE.asks("24 least", x, x.end(false), -60);
        x.sight(2, 0);
        DUE.asks("24 least of what comes about", x, x.end(false), 0);
        x.weigh(0, 0, 0, 12);
        DUE.asks("24 least of what can come about", x, x.end(false), 36);
        x.firm(2, 0);
        DUE.asks("24 greatest, FIRM", x, x.end(true), 0);
        x.node(0, 0);
        x.worth(4, 0, -100);
        DUE.asks("24 all below 0", x, x.end(true), -100);
        for (int n = 5; n < 10; n++) {
            x.node(0, 0);
            x.worth(n, 0, -100);
        }
        DUE.asks("24 the sum", x, x.end(false), -600);
    }

    private static void refusedTellsNothing() {
        SightChart x = outing();
        x.sight(2, 1);
        x.chance(1, 1);
        x.inHand(9);
        x.inHand(2);
        x.chance(3, 0);
        x.chance(0, 2);
        x.worthOf(2, 1);
        x.worthOf(0, 0);
        x.needless(2, 0);
        DUE.is("31 upper() as before", x.upper(), 7);
        DUE.is("32 lower() as before", x.lower(), 12);
    }

    /** 243 WORLDS: 2 sees 0 and is to be like it, for 9; 1, 3 and 4, which sees 1, all alike, for 27. */
    private static void mostWorlds() {
        SightChart x = new SightChart();
        int[] kinds = {1, 1, 2, 1, 2, 0, 0};
        for (int n = 0; n < kinds.length; n++) {
            x.node(kinds[n], 3);
            x.weigh(n, 0, 4, 4);
        }
        DUE.is("33 most WORLDS", x.count(4), 243);
        x.sight(2, 0);
        x.sight(4, 1);
        x.parent(5, 0);
        x.parent(5, 2);
        for (int p = 0; p < 9; p += 4) x.worth(5, p, 9);
        x.parent(6, 1);
        x.parent(6, 3);
        x.parent(6, 4);
        for (int p = 0; p < 27; p += 13) x.worth(6, p, 27);
        DUE.tells("14 of 243", x, x.best(), 18, 1);
        DUE.tells("19 of 243", x, x.knowing(), 0, 1);
        DUE.tells("18 of 243", x, x.worthOf(4, 3), 0, 1);
        DUE.is("21 of 243", x.needless(4, 1), 0);
        DUE.is("16 729 plans", x.bestForgetting(), SightChart.SPENT);
        DUE.tells("23 of 243", x, x.chance(4, 2), 1, 3);
        DUE.asks("24 of 243", x, x.end(true), 36);
        DUE.asks("24 of 243", x, x.end(false), 9);
        x.row(0, 4);
        for (int n = 0; n < 3; n++) x.lay(0, n, 2 - n);
        DUE.is("15 of 243", x.does(2, 0), 2);
        DUE.is("15 of 243", x.does(4, 0), 1);
        DUE.asks("22 of 243", x, x.span(5, 0, false), 0);
        DUE.asks("22 of 243", x, x.span(5, 3, true), 9);
        DUE.asks("22 of 243", x, x.span(5, 8, false), -100);
        x.blind(4, 1);
        DUE.tells("16 of 243", x, x.bestForgetting(), 12, 1);
        DUE.tells("17 of 243", x, x.lost(), 0, 1);
        DUE.tells("20 of 243", x, x.inHand(1), 6, 1);
        DUE.tells("20 of 243", x, x.inHand(3), 6, 1);
        x.firm(4, 2);
        DUE.tells("14 of 243, FIRM", x, x.best(), 12, 1);
    }
}
