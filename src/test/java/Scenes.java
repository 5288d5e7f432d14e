/** Charts that tests of single sentences begin with, and wrong numbers. */
final class Scenes {
    static final int BAD = SightChart.BAD, FULL = SightChart.FULL, STATE = SightChart.STATE;
    static final int SPENT = SightChart.SPENT, NONE = SightChart.NONE;
    static final int NOTHING = 1, BEYOND = 2, UNLIKE = 3, NOUGHT = 4, SIZE = 5;
    static final int LEAST = Integer.MIN_VALUE, GREATEST = Integer.MAX_VALUE;

    /** In mixed(): by KIND. */
    static final int[] CHANCES = {0, 1, 5}, CHOICES = {3, 4, 6}, WORTHS = {2, 7};
    static final int FREE = 3, MADE = 4, LAST_CHOICE = 6;
    /** 32 and 33 come round to bits 0 and 1. */
    static final int[] NO_NODE = {-1, 8, 9, 10, 32, 33, -9, GREATEST, LEAST};
    static final int[] NO_ROW = {-1, 4, 5, GREATEST, LEAST};
    /** In mixed(): the ROW with 10 places, that with none, the missing one, that with 27. */
    static final int TEN = 0, EMPTY = 1, MISSING = 2, LONGEST = 3;

    private Scenes() {
    }

    /** 0: a WORTH; 12, 13: a CHANCE with 2 or 3 STATES; 22, 23: a CHOICE. */
    static SightChart nodes(int... codes) {
        SightChart x = new SightChart();
        for (int code : codes) x.node(code / 10, code % 10);
        return x;
    }

    static void parents(SightChart x, int node, int... parents) {
        for (int p : parents) x.parent(node, p);
    }

    static void worths(SightChart x, int node, int... numbers) {
        for (int p = 0; p < numbers.length; p++) x.worth(node, p, numbers[p]);
    }

    /** Two numbers for each row. */
    static void weighs(SightChart x, int chance, int... weights) {
        for (int r = 0; 2 * r + 1 < weights.length; r++) x.weigh(chance, r, weights[2 * r], weights[2 * r + 1]);
    }

    static void lays(SightChart x, int r, int... numbers) {
        x.row(r, numbers.length);
        for (int i = 0; i < numbers.length; i++) x.lay(r, i, numbers[i]);
    }

    /** NODES of each KIND with all that they can have, and something told by each call that tells. */
    static SightChart mixed() {
        SightChart x = nodes(12, 13, 0);
        x.meanSights();
        x.node(2, 2);
        x.node(2, 3);
        x.node(1, 2);
        x.node(2, 3);
        x.node(0, 0);
        weighs(x, 0, 5, 7);
        parents(x, 1, 0);
        weighs(x, 1, 2, 3, 6, 6);
        x.worth(2, 0, 7);
        x.sight(FREE, 0);
        x.sight(MADE, 1);
        x.firm(MADE, 2);
        parents(x, 5, 1, FREE);
        weighs(x, 5, 1, 11, 12, 0, 0, 12, 6, 6, 7, 5, 3, 9);
        parents(x, 7, 0, LAST_CHOICE, 5);
        worths(x, 7, 10, -20, 30, 0, 50, -60, 0, 80, -90, 100, -100, 1);
        lays(x, TEN, 1, 2, 0, 1, 2, 0, 0, 0, 200, -200);
        x.row(EMPTY, 0);
        x.row(LONGEST, 27);
        x.lay(LONGEST, 26, 26);
        x.lay(LONGEST, 26, 27);
        x.chance(1, 2);
        return x;
    }

    /** As many NODES as there can be, with 243 WORLDS: CHANCES 0, 1, CHOICES 2 to 4, WORTHS 5 to 9. */
    static SightChart fullOfAll() {
        return nodes(13, 13, 23, 23, 23, 0, 0, 0, 0, 0);
    }

    /** A CHOICE 0 with two STATES, worth a and b. */
    static SightChart either(int a, int b) {
        SightChart x = nodes(22, 0);
        parents(x, 1, 0);
        worths(x, 1, a, b);
        return x;
    }

    /** 0: a coin; 1: a CHOICE that sees it; 2: a CHOICE that sees nothing, best if it is as the coin. */
    static SightChart coin() {
        SightChart x = nodes(12, 22, 22, 0);
        weighs(x, 0, 6, 6);
        x.sight(1, 0);
        parents(x, 3, 0, 2);
        worths(x, 3, 8, 0, 0, 4);
        return x;
    }

    /** 0: rain (1 in 3) or none; 1: a forecast, right in 3 of 4; 2: stay or go; 3: what that is worth. */
    static SightChart outing() {
        SightChart x = nodes(12, 12, 22, 0);
        weighs(x, 0, 4, 8);
        parents(x, 1, 0);
        weighs(x, 1, 9, 3, 3, 9);
        parents(x, 3, 0, 2);
        worths(x, 3, 0, 0, -60, 36);
        return x;
    }

    /** Seven CHANCES, each in STATE 1 with 1 in 12 if the one ahead is: all are with 1 in 35831808. */
    static SightChart chain() {
        SightChart x = nodes(12, 12, 12, 12, 12, 12, 12, 0, 0, 0);
        link(x, 7);
        x.parent(7, 6);
        return x;
    }

    /** Six such CHANCES: 5 is in STATE 1 with 1 in 2985984; 6: a CHOICE; 7: what 5 and 6 are worth. */
    static SightChart shorterChain() {
        SightChart x = nodes(12, 12, 12, 12, 12, 12, 22, 0);
        link(x, 6);
        parents(x, 7, 5, 6);
        return x;
    }

    private static void link(SightChart x, int chances) {
        weighs(x, 0, 11, 1);
        for (int n = 1; n < chances; n++) {
            x.parent(n, n - 1);
            x.weigh(n, 1, 11, 1);
        }
    }

    /** What is done where these are the STATES of all NODES ahead. */
    static int does(SightChart x, int choice, int... states) {
        lays(x, 0, states);
        return x.does(choice, 0);
    }

    static void spans(Due due, SightChart x, int node, int place, int least, int greatest) {
        String call = "span(" + node + ", " + place + ", ";
        due.asks(call + "false)", x, x.span(node, place, false), least);
        due.asks(call + "true)", x, x.span(node, place, true), greatest);
    }
}
