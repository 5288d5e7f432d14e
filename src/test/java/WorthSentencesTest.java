import java.util.function.Supplier;

/** Promises 18 to 21, what is supposed: for each sentence that names a boundary case a test of its own. */
public final class WorthSentencesTest {
    private static final int BAD = Scenes.BAD, STATE = Scenes.STATE, NONE = Scenes.NONE, UNLIKE = Scenes.UNLIKE;
    private static final Supplier<SightChart> MIXED = Scenes::mixed;
    /** All NODES of mixed(), and numbers that are none. */
    private static final int[] ANY = {0, 1, 2, 3, 4, 5, 6, 7, -1, 8, 9, 10, 32, 33, 35, -32, Scenes.GREATEST,
        Scenes.LEAST};

    public static void main(String[] args) throws ReflectiveOperationException {
        Sentences.run(WorthSentencesTest.class);
    }

    /** Two numbers are asked of a chart. */
    private interface Pair {
        int ask(SightChart x, int a, int b);
    }

    /** Whatever is refused by one call with such an answer is refused by the other in the same way. */
    private static void refusedAlike(Due due, int answer, Pair like, Pair asked) {
        int refused = 0;
        for (int a : ANY) {
            for (int b : ANY) {
                SightChart other = Scenes.mixed();
                if (like.ask(other, a, b) != answer) continue;
                refused++;
                String call = "(" + a + ", " + b + ")";
                if (answer != SightChart.FINDING) due.refuses(answer, call, MIXED, x -> asked.ask(x, a, b));
                else due.refusesAs(other.finding(), call, MIXED, x -> asked.ask(x, a, b));
            }
        }
        due.is("any refused", refused > 0 ? 1 : 0, 1);
    }

    // ---- 18 worthOf

    @Says(promise = 18, words = "WORTH of a SIGHT, told by upper(), lower(): 1")
    static void worthOfASight(Due due) {
        SightChart x = Scenes.outing();
        long before = x.digest();
        due.tells("the forecast", x, x.worthOf(2, 1), 9, 1);
        due.tells("the rain", x, x.worthOf(2, 0), 20, 1);
        due.is("it sees them no more than before", x.digest(), before);
        x.sight(2, 0);
        due.tells("the forecast, with the rain seen", x, x.worthOf(2, 1), 0, 1);
    }

    @Says(promise = 18, words = "WORTH of a SIGHT, told by upper(), lower(): 1")
    static void worthOfASightOfAFirmOne(Due due) {
        SightChart x = Scenes.coin();
        x.blind(1, 0);
        x.firm(1, 1);
        due.tells("for one behind it", x, x.worthOf(1, 0), 2, 1);
        x.firm(2, 1);
        due.tells("for none", x, x.worthOf(1, 0), 0, 1);
        due.tells("for none, of the last one", x, x.worthOf(2, 0), 0, 1);
    }

    @Says(promise = 18, words = "BAD, UNLIKE, STATE as sight()")
    static void worthOfBad(Due due) {
        refusedAlike(due, BAD, SightChart::sight, SightChart::worthOf);
        due.refuses(BAD, "itself", MIXED, x -> x.worthOf(6, 6));
        due.refuses(BAD, "not ahead", MIXED, x -> x.worthOf(3, 5));
    }

    @Says(promise = 18, words = "BAD, UNLIKE, STATE as sight()")
    static void worthOfUnlike(Due due) {
        refusedAlike(due, SightChart.FINDING, SightChart::sight, SightChart::worthOf);
        due.refusesAs(UNLIKE, "of a CHANCE", MIXED, x -> x.worthOf(1, 0));
        due.refusesAs(UNLIKE, "of a WORTH", MIXED, x -> x.worthOf(7, 0));
        due.refusesAs(UNLIKE, "of a CHOICE to be seen", MIXED, x -> x.worthOf(6, 3));
        due.refusesAs(UNLIKE, "of a WORTH to be seen", MIXED, x -> x.worthOf(6, 2));
    }

    @Says(promise = 18, words = "BAD, UNLIKE, STATE as sight()")
    static void worthOfState(Due due) {
        refusedAlike(due, STATE, SightChart::sight, SightChart::worthOf);
        due.refuses(STATE, "seen already", MIXED, x -> x.worthOf(Scenes.FREE, 0));
        due.refuses(STATE, "seen already, FIRM", MIXED, x -> x.worthOf(Scenes.MADE, 1));
        due.is("seen at one ahead, not at it", Scenes.mixed().worthOf(Scenes.LAST_CHOICE, 0), 1);
    }

    // ---- 19 knowing

    @Says(promise = 19, words = "WORTH of KNOWING, told by upper(), lower(): 1")
    static void knowingNothingMore(Due due) {
        SightChart x = new SightChart();
        due.tells("no NODES", x, x.knowing(), 0, 1);
        x = Scenes.chain();
        x.worth(7, 1, 1);
        due.tells("no CHOICES", x, x.knowing(), 0, 1);
        x = Scenes.outing();
        x.sight(2, 0);
        x.sight(2, 1);
        due.tells("all seen", x, x.knowing(), 0, 1);
        x.blind(2, 0);
        due.tells("one not seen", x, x.knowing(), 11, 1);
        x.firm(2, 1);
        due.tells("FIRM", x, x.knowing(), 0, 1);
    }

    @Says(promise = 19, words = "WORTH of KNOWING, told by upper(), lower(): 1")
    static void knowingOnlyWhatIsAhead(Due due) {
        for (boolean behind : new boolean[] {true, false}) {
            SightChart x = behind ? Scenes.nodes(22, 12, 0) : Scenes.nodes(12, 22, 0);
            Scenes.weighs(x, behind ? 1 : 0, 6, 6);
            Scenes.parents(x, 2, 0, 1);
            Scenes.worths(x, 2, 10, 0, 0, 10);
            due.tells(behind ? "just behind" : "just ahead", x, x.knowing(), behind ? 0 : 5, 1);
            due.is("nothing is seen then", x.meanSights(), 0);
        }
    }

    // ---- 20 inHand

    @Says(promise = 20, words = "What a CHANCE IN HAND is worth, told by upper(), lower(): 1")
    static void inHandWithoutWorths(Due due) {
        SightChart x = Scenes.nodes(13);
        due.tells("no WORTHS", x, x.inHand(0), 0, 1);
        x.node(0, 0);
        x.parent(1, 0);
        Scenes.worths(x, 1, -100, 0, 100);
        due.tells("from the least to the greatest", x, x.inHand(0), 200, 1);
        x.weigh(0, 0, 0, 0);
        due.tells("it is as is best already", x, x.inHand(0), 0, 1);
    }

    /** Without the PARENT it can't be like the coin, with it it can. */
    @Says(promise = 20, words = "What a CHANCE IN HAND is worth, told by upper(), lower(): 1")
    static void inHandSeesItsParentsAlone(Due due) {
        SightChart x = Scenes.nodes(12, 12, 0);
        Scenes.weighs(x, 0, 6, 6);
        Scenes.parents(x, 2, 0, 1);
        Scenes.worths(x, 2, 10, 0, 0, 10);
        due.tells("no PARENT of it", x, x.inHand(1), 0, 1);
        x.parent(1, 0);
        long before = x.digest();
        due.tells("its PARENT", x, x.inHand(1), 5, 1);
        due.is("still a CHANCE", x.digest(), before);
        due.tells("the first NODE", x, x.inHand(0), 5, 1);
    }

    /** It is best in 1 where just one of its two PARENTS is: neither tells that alone. */
    @Says(promise = 20, words = "What a CHANCE IN HAND is worth, told by upper(), lower(): 1")
    static void inHandSeesAllItsParents(Due due) {
        SightChart x = Scenes.nodes(12, 12, 12, 0);
        Scenes.weighs(x, 0, 6, 6);
        Scenes.weighs(x, 1, 6, 6);
        Scenes.parents(x, 3, 0, 1, 2);
        Scenes.worths(x, 3, 10, 0, 0, 10, 0, 10, 10, 0);
        x.parent(2, 1);
        due.tells("one PARENT", x, x.inHand(2), 0, 1);
        x.parent(2, 0);
        due.tells("both PARENTS", x, x.inHand(2), 5, 1);
    }

    /** Seven CHANCES less one: the whole is smaller then, and what is told is not. */
    @Says(promise = 20, words = "What a CHANCE IN HAND is worth, told by upper(), lower(): 1")
    static void inHandOfTheLongestChain(Due due) {
        SightChart x = Scenes.chain();
        x.worth(7, 1, 1);
        due.tells("the last one", x, x.inHand(6), 35831808 - 1, 35831808);
        due.tells("the first one", x, x.inHand(0), 11, 35831808);
    }

    @Says(promise = 20, words = "BAD")
    static void inHandBad(Due due) {
        for (int n : Scenes.NO_NODE) due.refuses(BAD, "inHand(" + n + ")", MIXED, x -> x.inHand(n));
    }

    @Says(promise = 20, words = "UNLIKE")
    static void inHandUnlike(Due due) {
        for (int n : new int[] {2, 7, 3, 4, 6}) due.refusesAs(UNLIKE, "inHand(" + n + ")", MIXED, x -> x.inHand(n));
        for (int n : Scenes.CHANCES) due.is("inHand(" + n + ")", Scenes.mixed().inHand(n), 1);
    }

    // ---- 21 needless

    @Says(promise = 21, words = "Whether a SIGHT is NEEDLESS: 1, 0")
    static void needlessOrNot(Due due) {
        SightChart x = Scenes.outing();
        x.sight(2, 0);
        x.sight(2, 1);
        long before = x.digest();
        x.chance(0, 0);
        due.is("the forecast, with the rain seen", x.needless(2, 1), 1);
        due.is("the rain", x.needless(2, 0), 0);
        due.is("both are seen still", x.digest(), before);
        due.is("nothing is told, upper()", x.upper(), 1);
        due.is("nothing is told, lower()", x.lower(), 3);
        x.firm(2, 0);
        due.is("of a FIRM one", x.needless(2, 0), 1);
    }

    /** 1 in 2985984 that what is seen matters, for 1. */
    @Says(promise = 21, words = "Whether a SIGHT is NEEDLESS: 1, 0")
    static void needlessByTheLeastDifference(Due due) {
        SightChart x = Scenes.shorterChain();
        x.sight(6, 5);
        Scenes.worths(x, 7, 1, 0, 0, 1);
        due.is("it matters", x.needless(6, 5), 0);
        x.worth(7, 3, 0);
        due.is("it is as good without", x.needless(6, 5), 1);
    }

    @Says(promise = 21, words = "Whether a SIGHT is NEEDLESS: 1, 0")
    static void needlessForThoseBehind(Due due) {
        SightChart x = Scenes.coin();
        due.is("KNOWN at one behind", x.needless(1, 0), 0);
        x.sight(2, 0);
        due.is("seen there, too", x.needless(1, 0), 1);
        due.is("KNOWN there anyway", x.needless(2, 0), 1);
    }

    @Says(promise = 21, words = "BAD, UNLIKE, STATE as blind()")
    static void needlessBad(Due due) {
        refusedAlike(due, BAD, SightChart::blind, SightChart::needless);
        due.refuses(BAD, "the first beyond", MIXED, x -> x.needless(3, 8));
    }

    @Says(promise = 21, words = "BAD, UNLIKE, STATE as blind()")
    static void needlessUnlike(Due due) {
        refusedAlike(due, SightChart.FINDING, SightChart::blind, SightChart::needless);
        due.refusesAs(UNLIKE, "a CHANCE", MIXED, x -> x.needless(1, 0));
        due.refusesAs(UNLIKE, "a WORTH", MIXED, x -> x.needless(7, 0));
    }

    @Says(promise = 21, words = "BAD, UNLIKE, STATE as blind()")
    static void needlessState(Due due) {
        refusedAlike(due, STATE, SightChart::blind, SightChart::needless);
        due.refuses(STATE, "not seen", MIXED, x -> x.needless(3, 1));
        due.refuses(STATE, "behind", MIXED, x -> x.needless(3, 5));
        due.refuses(STATE, "no CHANCE", MIXED, x -> x.needless(3, 2));
        SightChart x = Scenes.mixed();
        x.firm(Scenes.MADE, NONE);
        x.blind(Scenes.MADE, 1);
        due.is("seen no more", x.needless(Scenes.MADE, 1), STATE);
    }
}
