import java.util.function.Supplier;

/** Promises 22 to 24, how far: for each sentence that names a boundary case a test of its own. */
public final class SpanSentencesTest {
    private static final int BAD = Scenes.BAD, STATE = Scenes.STATE, NONE = Scenes.NONE;
    private static final int LEAST = Scenes.LEAST, GREATEST = Scenes.GREATEST;
    private static final int BEYOND = Scenes.BEYOND, UNLIKE = Scenes.UNLIKE;
    private static final Supplier<SightChart> MIXED = Scenes::mixed;

    public static void main(String[] args) throws ReflectiveOperationException {
        Sentences.run(SpanSentencesTest.class);
    }

    // ---- 22 span

    /** Numbers of the STATES 0 and 1, then the SPANS of both: 0 is best as long as it is as good. */
    @Says(promise = 22, words = "The least (high: the greatest) number of the SPAN of a place of a WORTH")
    static void spansAtTheEnds(Due due) {
        int[][] all = {{100, 100, 100, 100, -100, 100}, {99, 100, -100, 99, 100, 100}, {100, 99, 99, 100, -100, 100},
            {-100, -100, -100, 100, -100, -100}, {-100, -99, -100, -100, -99, 100}, {-99, -100, -100, 100, -100, -99},
            {0, 0, 0, 100, -100, 0}, {0, 1, -100, 0, 1, 100}, {1, 0, 0, 100, -100, 1},
            {-100, 100, -100, 99, -99, 100}, {100, -100, -100, 100, -100, 100}};
        for (int[] a : all) {
            SightChart x = Scenes.either(a[0], a[1]);
            long before = x.digest();
            Scenes.spans(due, x, 1, 0, a[2], a[3]);
            Scenes.spans(due, x, 1, 1, a[4], a[5]);
            due.is("the number is as before", x.digest(), before);
        }
    }

    @Says(promise = 22, words = "The least (high: the greatest) number of the SPAN of a place of a WORTH")
    static void spansOfWhatDoesNotMatter(Due due) {
        for (int v : new int[] {-100, 0, 100}) {
            SightChart x = Scenes.nodes(22, 0, 12, 0);
            x.parent(3, 2);
            x.worth(1, 0, v);
            x.worth(3, 1, v);
            Scenes.spans(due, x, 1, 0, -100, 100);
            Scenes.spans(due, x, 3, 1, -100, 100);
        }
    }

    @Says(promise = 22, words = "told by asked(): 1")
    static void spanIsAsked(Due due) {
        SightChart x = Scenes.either(5, 3);
        x.best();
        due.is("span()", x.span(1, 0, false), 1);
        due.is("asked()", x.asked(), 3);
        due.is("upper() as before", x.upper(), 5);
        due.is("lower() as before", x.lower(), 1);
    }

    @Says(promise = 22, words = "BAD")
    static void spanBad(Due due) {
        for (int n : Scenes.NO_NODE) {
            for (int p : new int[] {0, -1, 27}) {
                due.refuses(BAD, "span(" + n + ", " + p + ", ..)", MIXED, x -> x.span(n, p, true));
                due.refuses(BAD, "span(" + n + ", " + p + ", ..)", MIXED, x -> x.span(n, p, false));
            }
        }
    }

    @Says(promise = 22, words = "UNLIKE")
    static void spanUnlike(Due due) {
        for (int n : new int[] {0, 1, 3, 4, 5, 6}) {
            for (int p : new int[] {0, -1, 27}) {
                due.refusesAs(UNLIKE, "span(" + n + ", " + p + ", ..)", MIXED, x -> x.span(n, p, false));
            }
        }
    }

    @Says(promise = 22, words = "BEYOND: no such place")
    static void spanBeyond(Due due) {
        for (int p : new int[] {-1, 12, 27, LEAST, GREATEST}) {
            due.refusesAs(BEYOND, "of 12: " + p, MIXED, x -> x.span(7, p, true));
        }
        due.refusesAs(BEYOND, "of 1: 1", MIXED, x -> x.span(2, 1, true));
        due.is("the last of 12", Scenes.mixed().span(7, 11, true), 1);
        due.is("the first of 12", Scenes.mixed().span(7, 0, false), 1);
    }

    private static SightChart allFirm() {
        SightChart x = Scenes.mixed();
        x.firm(Scenes.FREE, 1);
        x.firm(Scenes.LAST_CHOICE, 0);
        return x;
    }

    @Says(promise = 22, words = "STATE: no CHOICE that is not FIRM")
    static void spanState(Due due) {
        due.refuses(STATE, "all FIRM, least", SpanSentencesTest::allFirm, x -> x.span(7, 0, false));
        due.refuses(STATE, "all FIRM, greatest", SpanSentencesTest::allFirm, x -> x.span(7, 11, true));
        due.refuses(STATE, "no CHOICES", () -> Scenes.nodes(12, 0), x -> x.span(1, 0, true));
        SightChart x = allFirm();
        x.firm(Scenes.LAST_CHOICE, NONE);
        due.is("the last one is not", x.span(7, 0, true), 1);
        x = Scenes.nodes(0, 22);
        due.is("a CHOICE behind the WORTH", x.span(0, 0, true), 1);
    }

    @Says(promise = 22, words = "(STATE behind these.)")
    static void spanStateIsLast(Due due) {
        Supplier<SightChart> chart = SpanSentencesTest::allFirm;
        due.refuses(BAD, "BAD ahead of STATE", chart, x -> x.span(8, 0, true));
        for (int n : new int[] {0, 3, 4}) due.refusesAs(UNLIKE, "UNLIKE ahead of STATE", chart, x -> x.span(n, 0, true));
        for (int p : new int[] {-1, 12}) due.refusesAs(BEYOND, "BEYOND ahead of STATE", chart, x -> x.span(7, p, true));
    }

    // ---- 23 chance

    @Says(promise = 23, words = "The chance that a NODE comes to a STATE by THE BEST PLAN, told by upper(), lower(): 1")
    static void chancesFromNeverToAlways(Due due) {
        SightChart x = Scenes.nodes(13, 23);
        int[] want = {1, 0, 0};
        for (int s = 0; s < 3; s++) due.tells("a CHANCE at first, " + s, x, x.chance(0, s), want[s], 1);
        for (int s = 0; s < 3; s++) due.tells("a CHOICE as good, " + s, x, x.chance(1, s), want[s], 1);
        x.weigh(0, 0, 0, 0);
        due.tells("always the last", x, x.chance(0, 2), 1, 1);
        x.firm(1, 2);
        due.tells("FIRM in the last", x, x.chance(1, 2), 1, 1);
        due.tells("FIRM in the last, never the first", x, x.chance(1, 0), 0, 1);
        for (int w = 0; w <= 12; w++) {
            x.weigh(0, 0, w, 12 - w);
            x.chance(0, 0);
            due.is(w + " by 12", x.upper() * 12, w * x.lower());
        }
    }

    @Says(promise = 23, words = "The chance that a NODE comes to a STATE by THE BEST PLAN, told by upper(), lower(): 1")
    static void theLeastChanceAndTheNextToAll(Due due) {
        SightChart x = Scenes.chain();
        due.tells("the least", x, x.chance(6, 1), 1, 35831808);
        due.tells("all but that", x, x.chance(6, 0), 35831807, 35831808);
        due.tells("the first one", x, x.chance(0, 1), 1, 12);
    }

    @Says(promise = 23, words = "The chance that a NODE comes to a STATE by THE BEST PLAN, told by upper(), lower(): 1")
    static void chanceByWhatIsDone(Due due) {
        SightChart x = Scenes.outing();
        x.sight(2, 1);
        due.tells("going", x, x.chance(2, 1), 7, 12);
        due.tells("staying", x, x.chance(2, 0), 5, 12);
        x = Scenes.either(0, 0);
        x.node(1, 2);
        x.parent(2, 0);
        Scenes.weighs(x, 2, 0, 12, 12, 0);
        due.tells("behind what is done", x, x.chance(2, 1), 1, 1);
        x.worth(1, 1, 1);
        due.tells("behind another one", x, x.chance(2, 1), 0, 1);
    }

    @Says(promise = 23, words = "BAD: the NODE")
    static void chanceBad(Due due) {
        for (int n : Scenes.NO_NODE) {
            for (int s : new int[] {0, -1, 3}) due.refuses(BAD, "chance(" + n + ", " + s + ")", MIXED, x -> x.chance(n, s));
        }
    }

    @Says(promise = 23, words = "UNLIKE: a WORTH")
    static void chanceUnlike(Due due) {
        for (int n : Scenes.WORTHS) {
            for (int s : new int[] {0, 1, -1, 3, LEAST}) {
                due.refusesAs(UNLIKE, "chance(" + n + ", " + s + ")", MIXED, x -> x.chance(n, s));
            }
        }
    }

    @Says(promise = 23, words = "BEYOND: no such STATE")
    static void chanceBeyond(Due due) {
        int[] states = {2, 3, 0, 2, 3, 2, 3};
        for (int n : new int[] {0, 1, 3, 4, 5, 6}) {
            for (int s : new int[] {-1, states[n], states[n] + 1, NONE, LEAST, GREATEST}) {
                due.refusesAs(BEYOND, "chance(" + n + ", " + s + ")", MIXED, x -> x.chance(n, s));
            }
            due.is("the last STATE", Scenes.mixed().chance(n, states[n] - 1), 1);
        }
    }

    // ---- 24 end

    private static void ends(Due due, String call, SightChart x, int least, int greatest) {
        due.asks(call + ", least", x, x.end(false), least);
        due.asks(call + ", greatest", x, x.end(true), greatest);
    }

    @Says(promise = 24, words = "The least (most: the greatest) WORTH of a WORLD")
    static void endsOfNothingAndOfTheMost(Due due) {
        ends(due, "no NODES", new SightChart(), 0, 0);
        ends(due, "no WORTHS", Scenes.nodes(12, 22), 0, 0);
        for (int v : new int[] {100, -100}) {
            SightChart x = Scenes.nodes(0, 0, 0, 0, 0, 0, 0, 0, 0, 0);
            for (int n = 0; n < 10; n++) x.worth(n, 0, v);
            ends(due, "ten WORTHS of " + v, x, 10 * v, 10 * v);
        }
    }

    @Says(promise = 24, words = "The least (most: the greatest) WORTH of a WORLD")
    static void endsOnOneSideOf0(Due due) {
        for (int v : new int[] {40, -60}) {
            SightChart x = Scenes.nodes(13, 0);
            x.weigh(0, 0, 4, 4);
            x.parent(1, 0);
            Scenes.worths(x, 1, v + 1, v, v + 2);
            ends(due, "from " + v, x, v, v + 2);
        }
    }

    @Says(promise = 24, words = "that can come about by THE BEST PLAN")
    static void endsOnlyOfWhatCanComeAbout(Due due) {
        SightChart x = Scenes.nodes(13, 22, 0, 0);
        Scenes.parents(x, 2, 0);
        Scenes.worths(x, 2, 10, -90, 90);
        Scenes.parents(x, 3, 1);
        Scenes.worths(x, 3, 0, -5);
        ends(due, "all on STATE 0", x, 10, 10);
        x.weigh(0, 0, 11, 1);
        ends(due, "1 in 12 on STATE 1", x, -90, 10);
        x.weigh(0, 0, 11, 0);
        ends(due, "1 in 12 on STATE 2", x, 10, 90);
        x.firm(1, 1);
        ends(due, "FIRM in another one", x, 5, 85);
    }

    @Says(promise = 24, words = "that can come about by THE BEST PLAN")
    static void endsWithTheLeastChance(Due due) {
        SightChart x = Scenes.chain();
        Scenes.worths(x, 7, 0, 100);
        ends(due, "1 in 35831808", x, 0, 100);
        x.worth(7, 1, -100);
        ends(due, "1 in 35831808", x, -100, 0);
    }

    @Says(promise = 24, words = "told by asked(): 1")
    static void endIsAsked(Due due) {
        SightChart x = Scenes.outing();
        x.best();
        long before = x.digest();
        ends(due, "going", x, -60, 36);
        due.is("upper() as before", x.upper(), 4);
        due.is("digest() as before", x.digest(), before);
    }
}
