import java.util.function.Supplier;
import java.util.function.ToIntFunction;

/** Promises 1 to 7, the chart: for each sentence that names a boundary case a test of its own. */
public final class ChartSentencesTest {
    private static final int BAD = Scenes.BAD, FULL = Scenes.FULL, STATE = Scenes.STATE, SPENT = Scenes.SPENT;
    private static final int LEAST = Scenes.LEAST, GREATEST = Scenes.GREATEST;
    private static final int NOTHING = Scenes.NOTHING, BEYOND = Scenes.BEYOND, UNLIKE = Scenes.UNLIKE;
    private static final Supplier<SightChart> MIXED = Scenes::mixed, FULL_OF_ALL = Scenes::fullOfAll;

    public static void main(String[] args) throws ReflectiveOperationException {
        Sentences.run(ChartSentencesTest.class);
    }

    private static void allBad(Due due, String call, ToIntFunction<SightChart> asked) {
        due.refuses(BAD, call, MIXED, asked);
    }

    // ---- 1 a new object

    @Says(promise = 1, words = "No NODES")
    static void newHasNoNodes(Due due) {
        for (int what = 0; what <= 3; what++) due.is("count(" + what + ")", new SightChart().count(what), 0);
        due.refuses(BAD, "told(0, 0)", SightChart::new, x -> x.told(0, 0));
        due.refuses(BAD, "mean(0)", SightChart::new, x -> x.mean(0));
        due.is("the first one's number", new SightChart().node(0, 0), 0);
    }

    @Says(promise = 1, words = "No NODES")
    static void newSharesNoNodesWithOthers(Due due) {
        SightChart other = Scenes.mixed();
        long before = other.digest();
        due.is("a new one beside another one", new SightChart().count(0), 0);
        due.is("another one beside a new one", other.digest(), before);
    }

    @Says(promise = 1, words = "no ROWS")
    static void newHasNoRows(Due due) {
        for (int r = 0; r < 4; r++) {
            int row = r;
            due.refusesAs(NOTHING, "tear(" + r + ")", SightChart::new, x -> x.tear(row));
            due.refusesAs(NOTHING, "lay(" + r + ", 0, 1)", SightChart::new, x -> x.lay(row, 0, 1));
        }
        Scenes.mixed();
        due.is("digest()", new SightChart().digest(), (((17L * 31 - 1) * 31 - 1) * 31 - 1) * 31 - 1);
    }

    // ---- 2 node

    @Says(promise = 2, words = "A NODE of KIND 0, 1 or 2")
    static void kindsFrom0To2(Due due) {
        for (int kind = 0; kind <= 2; kind++) {
            SightChart x = new SightChart();
            due.is("node(" + kind + ", 2)", x.node(kind, 2), 0);
            due.is("its KIND", x.told(0, 0), kind);
        }
        for (int kind : new int[] {-1, 3, 4, LEAST, GREATEST}) allBad(due, "KIND " + kind, x -> x.node(kind, 2));
    }

    @Says(promise = 2, words = "with STATES (2, 3")
    static void statesFrom2To3(Due due) {
        for (int kind = 1; kind <= 2; kind++) {
            for (int s = 2; s <= 3; s++) {
                SightChart x = new SightChart();
                due.is("node(" + kind + ", " + s + ")", x.node(kind, s), 0);
                due.is("its STATES", x.told(0, 1), s);
            }
            int k = kind;
            for (int s : new int[] {1, 4, 0, -1, -2, LEAST, GREATEST}) {
                due.refuses(BAD, "KIND " + k + ", STATES " + s, SightChart::new, x -> x.node(k, s));
            }
        }
    }

    @Says(promise = 2, words = "of a WORTH not looked at)")
    static void statesOfAWorthAreNotLookedAt(Due due) {
        for (int s : new int[] {LEAST, -1, 0, 1, 2, 3, 4, 244, GREATEST}) {
            SightChart x = new SightChart();
            due.is("node(0, " + s + ")", x.node(0, s), 0);
            due.is("its STATES", x.told(0, 1), 0);
            due.is("WORLDS", x.count(4), 1);
        }
    }

    @Says(promise = 2, words = "its number")
    static void numbersFrom0To9(Due due) {
        SightChart x = new SightChart();
        int[] kinds = {0, 1, 2, 2, 1, 0, 0, 0, 0, 0};
        for (int n = 0; n < 10; n++) {
            due.is("a refused one has no number", x.node(3, 2), BAD);
            due.is("NODE " + n, x.node(kinds[n], 3), n);
            due.is("its KIND", x.told(n, 0), kinds[n]);
        }
    }

    @Says(promise = 2, words = "BAD")
    static void nodeBadIsFirst(Due due) {
        for (int[] b : new int[][] {{-1, 2}, {3, 2}, {1, 1}, {1, 4}, {2, 1}, {2, 4}}) {
            due.refuses(BAD, "ahead of FULL", FULL_OF_ALL, x -> x.node(b[0], b[1]));
            due.refuses(BAD, "ahead of SPENT", () -> Scenes.nodes(13, 13, 13, 13, 13), x -> x.node(b[0], b[1]));
        }
    }

    @Says(promise = 2, words = "FULL")
    static void nodeFullAtTen(Due due) {
        Supplier<SightChart> nine = () -> Scenes.nodes(0, 0, 0, 0, 0, 0, 0, 0, 0);
        Supplier<SightChart> ten = () -> Scenes.nodes(0, 0, 0, 0, 0, 0, 0, 0, 0, 0);
        for (int kind = 0; kind <= 2; kind++) {
            int k = kind;
            due.is("the tenth, KIND " + k, nine.get().node(k, 3), 9);
            due.refuses(FULL, "the eleventh, KIND " + k, ten, x -> x.node(k, 3));
            due.refuses(FULL, "ahead of SPENT, KIND " + k, FULL_OF_ALL, x -> x.node(k, 2));
        }
    }

    /** Each number of WORLDS that there can be, with either number of STATES more. */
    @Says(promise = 2, words = "SPENT: more than 243 then")
    static void nodeSpentBeyond243(Due due) {
        for (int twos = 0; twos <= 7; twos++) {
            for (int threes = 0; threes <= 5; threes++) {
                int worlds = (1 << twos) * (int) Math.round(Math.pow(3, threes));
                if (worlds > 243) continue;
                for (int s = 2; s <= 3; s++) nodeBeside(due, twos, threes, worlds, s);
            }
        }
    }

    private static void nodeBeside(Due due, int twos, int threes, int worlds, int states) {
        Supplier<SightChart> chart = () -> {
            SightChart x = new SightChart();
            for (int k = 0; k < twos; k++) x.node(1 + k % 2, 2);
            for (int k = 0; k < threes; k++) x.node(2 - k % 2, 3);
            return x;
        };
        due.is("WORLDS of " + twos + " and " + threes, chart.get().count(4), worlds);
        for (int kind = 1; kind <= 2; kind++) {
            int k = kind;
            String call = worlds + " WORLDS, node(" + k + ", " + states + ")";
            if (worlds * states > 243) due.refuses(SPENT, call, chart, x -> x.node(k, states));
            else due.is(call, chart.get().node(k, states), twos + threes);
        }
    }

    @Says(promise = 2, words = "SPENT: more than 243 then")
    static void aWorthIsNeverSpent(Due due) {
        SightChart x = Scenes.nodes(13, 13, 13, 13, 13);
        due.is("a WORTH beside 243 WORLDS", x.node(0, 3), 5);
        due.is("still 243", x.count(4), 243);
    }

    // ---- 3 parent

    @Says(promise = 3, words = "A NODE gets a PARENT more")
    static void parentsOfEachKind(Due due) {
        SightChart x = Scenes.nodes(12, 22, 23, 12, 0);
        x.firm(2, 1);
        for (int child = 3; child <= 4; child++) due.is("a CHANCE as PARENT", x.parent(child, 0), 1);
        due.is("a CHOICE as PARENT", x.parent(4, 1), 2);
        due.is("a FIRM one as PARENT", x.parent(3, 2), 2);
        due.is("rows by both", x.told(3, 4), 6);
        due.is("the nearest one ahead", x.parent(4, 3), 3);
        due.is("places by all", x.told(4, 4), 8);
    }

    @Says(promise = 3, words = "(its TABLE is as at first then)")
    static void tableOfAChanceIsAsAtFirst(Due due) {
        SightChart x = Scenes.nodes(12, 13, 13);
        Scenes.weighs(x, 2, 3, 4);
        due.is("the first PARENT", x.parent(2, 0), 1);
        for (int r = 0; r < 2; r++) weightsAtFirst(due, x, 2, r);
        Scenes.weighs(x, 2, 0, 0, 0, 12);
        due.is("the second PARENT", x.parent(2, 1), 2);
        for (int r = 0; r < 6; r++) weightsAtFirst(due, x, 2, r);
    }

    private static void weightsAtFirst(Due due, SightChart x, int chance, int row) {
        for (int s = 0; s < x.told(chance, 1); s++) {
            due.is("row " + row + ", STATE " + s, x.weight(chance, row, s), s == 0 ? 12 : 0);
        }
    }

    @Says(promise = 3, words = "(its TABLE is as at first then)")
    static void tableOfAWorthIsAsAtFirst(Due due) {
        SightChart x = Scenes.nodes(13, 13, 23, 0);
        int places = 1;
        for (int p = 0; p < 3; p++) {
            for (int i = 0; i < places; i++) x.worth(3, i, 100 - i);
            due.is("PARENT " + p, x.parent(3, p), p + 1);
            places *= 3;
            for (int i = 0; i < places; i++) due.asks("place " + i, x, x.worth(3, i, 0), 0);
        }
    }

    @Says(promise = 3, words = "(its TABLE is as at first then)")
    static void tableStaysIfRefused(Due due) {
        SightChart x = Scenes.nodes(12, 22, 12, 0);
        Scenes.weighs(x, 2, 5, 7);
        x.worth(3, 0, 44);
        x.parent(2, 3);
        x.parent(2, 2);
        x.parent(3, 3);
        x.parent(3, 4);
        due.is("WEIGHT", x.weight(2, 0, 1), 7);
        due.asks("number", x, x.worth(3, 0, 0), 44);
        Scenes.parents(x, 2, 0, 1);
        Scenes.weighs(x, 2, 5, 7);
        x.node(1, 2);
        due.is("twice", x.parent(2, 0), BAD);
        due.is("WEIGHT still", x.weight(2, 0, 1), 7);
    }

    @Says(promise = 3, words = "how many")
    static void howManyParents(Due due) {
        SightChart x = Scenes.nodes(12, 12, 12, 12, 0);
        for (int p = 0; p < 2; p++) due.is("of a CHANCE", x.parent(3, 1 - p), p + 1);
        for (int p = 0; p < 3; p++) due.is("of a WORTH", x.parent(4, 2 - p), p + 1);
        due.is("told() of the CHANCE", x.told(3, 2), 2);
        due.is("told() of the WORTH", x.told(4, 2), 3);
    }

    @Says(promise = 3, words = "BAD: either")
    static void parentOfNoNode(Due due) {
        for (int n : Scenes.NO_NODE) {
            allBad(due, "parent(" + n + ", 0)", x -> x.parent(n, 0));
            allBad(due, "parent(7, " + n + ")", x -> x.parent(7, n));
            allBad(due, "parent(2, " + n + ")", x -> x.parent(2, n));
            allBad(due, "ahead of UNLIKE, " + n, x -> x.parent(Scenes.FREE, n));
            allBad(due, "both, " + n, x -> x.parent(n, n));
        }
    }

    @Says(promise = 3, words = "not ahead")
    static void parentNotAhead(Due due) {
        allBad(due, "itself, a CHANCE", x -> x.parent(1, 1));
        allBad(due, "itself, a WORTH", x -> x.parent(2, 2));
        allBad(due, "the next one", x -> x.parent(2, 3));
        allBad(due, "the last CHANCE", x -> x.parent(1, 5));
        allBad(due, "of the first NODE", x -> x.parent(0, 1));
        allBad(due, "ahead of UNLIKE: itself, a CHOICE", x -> x.parent(Scenes.FREE, Scenes.FREE));
        allBad(due, "ahead of UNLIKE: behind a FIRM one", x -> x.parent(Scenes.MADE, 5));
        allBad(due, "ahead of FULL", x -> x.parent(5, 6));
        due.is("the one just ahead", Scenes.mixed().parent(2, 1), 1);
    }

    @Says(promise = 3, words = "a WORTH as PARENT")
    static void aWorthAsParent(Due due) {
        Supplier<SightChart> chart = () -> Scenes.nodes(0, 12, 0, 22);
        for (int child = 1; child <= 3; child++) {
            int c = child;
            due.refuses(BAD, "of NODE " + c, chart, x -> x.parent(c, 0));
        }
        allBad(due, "of a full CHANCE", x -> x.parent(5, 2));
        allBad(due, "of a full WORTH", x -> x.parent(7, 2));
        allBad(due, "of a FIRM one", x -> x.parent(Scenes.MADE, 2));
    }

    @Says(promise = 3, words = "twice the same")
    static void twiceTheSameParent(Due due) {
        allBad(due, "the only one", x -> x.parent(1, 0));
        for (int p : new int[] {1, 3}) allBad(due, "of a full CHANCE", x -> x.parent(5, p));
        for (int p : new int[] {0, 5, 6}) allBad(due, "of a full WORTH", x -> x.parent(7, p));
        SightChart x = Scenes.mixed();
        due.is("the same of another one", x.parent(2, 0), 1);
    }

    @Says(promise = 3, words = "UNLIKE: a CHOICE")
    static void parentOfAChoice(Due due) {
        due.refusesAs(UNLIKE, "of a CHOICE", MIXED, x -> x.parent(Scenes.FREE, 0));
        due.refusesAs(UNLIKE, "of a FIRM one", MIXED, x -> x.parent(Scenes.MADE, Scenes.FREE));
        due.refusesAs(UNLIKE, "the one just ahead", MIXED, x -> x.parent(Scenes.LAST_CHOICE, 5));
    }

    @Says(promise = 3, words = "FULL.")
    static void fullOfParents(Due due) {
        due.refuses(FULL, "a CHANCE with 2", MIXED, x -> x.parent(5, 0));
        due.refuses(FULL, "a WORTH with 3", MIXED, x -> x.parent(7, 1));
        due.refuses(FULL, "a WORTH with 3, a CHOICE more", MIXED, x -> x.parent(7, Scenes.MADE));
    }

    /** A CHOICE can have none at all, so it is full from the first, and yet UNLIKE. */
    @Says(promise = 3, words = "(FULL behind UNLIKE.)")
    static void fullBehindUnlike(Due due) {
        Supplier<SightChart> chart = () -> Scenes.nodes(12, 12, 12, 12, 22);
        for (int p = 0; p < 4; p++) {
            int parent = p;
            due.refusesAs(UNLIKE, "PARENT " + p, chart, x -> x.parent(4, parent));
        }
    }

    // ---- 4 sight

    @Says(promise = 4, words = "A CHOICE sees a CHANCE ahead of it")
    static void seesFromFirstToNearest(Due due) {
        SightChart x = Scenes.nodes(12, 0, 22, 12, 22);
        x.firm(2, 0);
        due.is("the first NODE", x.sight(4, 0), 1);
        due.is("the one just ahead", x.sight(4, 3), 2);
        due.is("of a FIRM one", x.sight(2, 0), 1);
    }

    @Says(promise = 4, words = "how many SIGHTS")
    static void asManySightsAsThereCanBe(Due due) {
        SightChart x = Scenes.nodes(12, 12, 12, 12, 12, 12, 22);
        for (int n = 5; n >= 0; n--) due.is("CHANCE " + n, x.sight(6, n), 6 - n);
        due.is("told()", x.told(6, 3), 6);
        x.blind(6, 3);
        due.is("one again", x.sight(6, 3), 6);
    }

    @Says(promise = 4, words = "BAD: either")
    static void sightOfNoNode(Due due) {
        for (int n : Scenes.NO_NODE) {
            allBad(due, "sight(" + n + ", 0)", x -> x.sight(n, 0));
            allBad(due, "sight(6, " + n + ")", x -> x.sight(6, n));
            allBad(due, "ahead of UNLIKE, sight(7, " + n + ")", x -> x.sight(7, n));
            allBad(due, "both, " + n, x -> x.sight(n, n));
        }
    }

    @Says(promise = 4, words = "not ahead")
    static void sightNotAhead(Due due) {
        allBad(due, "itself", x -> x.sight(Scenes.FREE, Scenes.FREE));
        allBad(due, "behind", x -> x.sight(Scenes.FREE, 5));
        allBad(due, "just behind", x -> x.sight(Scenes.MADE, 5));
        allBad(due, "a WORTH behind", x -> x.sight(Scenes.FREE, 7));
        allBad(due, "a CHANCE itself", x -> x.sight(0, 0));
        allBad(due, "a CHANCE behind a WORTH", x -> x.sight(2, 5));
        due.is("just ahead", Scenes.mixed().sight(Scenes.LAST_CHOICE, 5), 1);
    }

    @Says(promise = 4, words = "UNLIKE: no CHOICE, no CHANCE")
    static void sightUnlike(Due due) {
        int[][] unlike = {{1, 0}, {2, 0}, {7, 5}, {5, 0}, {6, 2}, {6, 3}, {6, 4}, {3, 2}, {4, 3}, {7, 3}, {5, 2}};
        for (int[] u : unlike) {
            due.refusesAs(UNLIKE, "sight(" + u[0] + ", " + u[1] + ")", MIXED, x -> x.sight(u[0], u[1]));
        }
    }

    @Says(promise = 4, words = "STATE: it does already")
    static void seesItAlready(Due due) {
        due.refuses(STATE, "seen", MIXED, x -> x.sight(Scenes.FREE, 0));
        due.refuses(STATE, "seen by a FIRM one", MIXED, x -> x.sight(Scenes.MADE, 1));
        SightChart x = Scenes.mixed();
        due.is("seen by another one only", x.sight(Scenes.LAST_CHOICE, 0), 1);
        due.is("and now by itself", x.sight(Scenes.LAST_CHOICE, 0), STATE);
    }

    /** Numbers that come round to the bit of a CHANCE that is seen are none all the same. */
    @Says(promise = 4, words = "(STATE behind these.)")
    static void sightStateIsLast(Due due) {
        for (int n : new int[] {32, 64, -32, LEAST}) {
            allBad(due, "not CHANCE 0: " + n, x -> x.sight(Scenes.FREE, n));
            allBad(due, "not CHANCE 1: " + (n + 1), x -> x.sight(Scenes.MADE, n + 1));
        }
        due.refusesAs(UNLIKE, "a CHANCE with that PARENT", MIXED, x -> x.sight(1, 0));
        due.refusesAs(UNLIKE, "a CHOICE that is KNOWN", MIXED, x -> x.sight(Scenes.MADE, Scenes.FREE));
    }

    // ---- 5 blind

    @Says(promise = 5, words = "A SIGHT is taken away")
    static void oneSightIsTakenAway(Due due) {
        SightChart x = Scenes.nodes(12, 12, 12, 22, 22);
        for (int n = 0; n < 3; n++) {
            x.sight(3, n);
            x.sight(4, n);
        }
        due.is("the middle one", x.blind(3, 1), 2);
        int[] seenBy = {2, 1, 2};
        for (int n = 0; n < 3; n++) due.is("CHANCE " + n, x.mark(n, 1), seenBy[n]);
        x.firm(4, 0);
        due.is("of a FIRM one", x.blind(4, 2), 2);
    }

    @Says(promise = 5, words = "how many are left")
    static void untilNoSightIsLeft(Due due) {
        SightChart x = Scenes.nodes(12, 12, 12, 12, 12, 12, 22);
        for (int n = 0; n < 6; n++) x.sight(6, n);
        for (int n = 0; n < 6; n++) due.is("CHANCE " + n, x.blind(6, n), 5 - n);
        for (int n = 0; n < 6; n++) due.is("CHANCE " + n + " again", x.blind(6, n), STATE);
    }

    @Says(promise = 5, words = "BAD: either")
    static void blindOfNoNode(Due due) {
        for (int n : Scenes.NO_NODE) {
            allBad(due, "blind(" + n + ", 0)", x -> x.blind(n, 0));
            allBad(due, "blind(3, " + n + ")", x -> x.blind(Scenes.FREE, n));
            allBad(due, "ahead of UNLIKE, blind(0, " + n + ")", x -> x.blind(0, n));
            allBad(due, "both, " + n, x -> x.blind(n, n));
        }
    }

    @Says(promise = 5, words = "UNLIKE: no CHOICE")
    static void blindUnlike(Due due) {
        for (int n : new int[] {0, 1, 5, 2, 7}) {
            for (int seen = 0; seen < 8; seen++) {
                int s = seen;
                due.refusesAs(UNLIKE, "blind(" + n + ", " + s + ")", MIXED, x -> x.blind(n, s));
            }
        }
    }

    /** It is not asked whether what is not seen is ahead, or a CHANCE. */
    @Says(promise = 5, words = "STATE: it does not see that")
    static void blindOfWhatIsNotSeen(Due due) {
        for (int n = 1; n < 8; n++) {
            int seen = n;
            due.refuses(STATE, "blind(3, " + n + ")", MIXED, x -> x.blind(Scenes.FREE, seen));
        }
        due.refuses(STATE, "what another one sees", MIXED, x -> x.blind(Scenes.MADE, 0));
        due.refuses(STATE, "with no SIGHTS", MIXED, x -> x.blind(Scenes.LAST_CHOICE, 0));
    }

    @Says(promise = 5, words = "(STATE behind these.)")
    static void blindStateIsLast(Due due) {
        due.refusesAs(UNLIKE, "a CHANCE sees nothing, and is UNLIKE", MIXED, x -> x.blind(1, 0));
        due.refusesAs(UNLIKE, "a WORTH sees nothing, and is UNLIKE", MIXED, x -> x.blind(7, 0));
        for (int n : new int[] {32, -32, LEAST, 8}) allBad(due, "no NODE " + n, x -> x.blind(Scenes.FREE, n));
    }

    // ---- 6 weigh

    /** All pairs from -1 to 13. */
    @Says(promise = 6, words = "The WEIGHTS of a row of a CHANCE's TABLE are w0, w1, and what is left of 12")
    static void weightsOfThree(Due due) {
        for (int w0 = -1; w0 <= 13; w0++) {
            for (int w1 = -1; w1 <= 13; w1++) weighOne(due, 1, w0, w1, w0 >= 0 && w1 >= 0 && w0 + w1 <= 12);
        }
    }

    @Says(promise = 6, words = "(nothing may be, with 2 STATES): 1")
    static void weightsOfTwo(Due due) {
        for (int w0 = -1; w0 <= 13; w0++) {
            for (int w1 = -1; w1 <= 13; w1++) weighOne(due, 0, w0, w1, w0 >= 0 && w1 >= 0 && w0 + w1 == 12);
        }
    }

    private static void weighOne(Due due, int chance, int w0, int w1, boolean taken) {
        String call = "weigh(" + chance + ", 0, " + w0 + ", " + w1 + ")";
        if (!taken) {
            due.refuses(BAD, call, MIXED, x -> x.weigh(chance, 0, w0, w1));
            return;
        }
        SightChart x = Scenes.mixed();
        due.is(call, x.weigh(chance, 0, w0, w1), 1);
        due.is(call + ", STATE 0", x.weight(chance, 0, 0), w0);
        due.is(call + ", STATE 1", x.weight(chance, 0, 1), w1);
        if (chance == 1) due.is(call + ", STATE 2", x.weight(chance, 0, 2), 12 - w0 - w1);
    }

    /** The first, the last and the one between of nine rows, and that the others stay. */
    @Says(promise = 6, words = "The WEIGHTS of a row of a CHANCE's TABLE")
    static void oneRowAlone(Due due) {
        for (int row : new int[] {0, 4, 8}) {
            SightChart x = Scenes.nodes(13, 13, 13);
            Scenes.parents(x, 2, 0, 1);
            due.is("weigh row " + row, x.weigh(2, row, 0, 5), 1);
            for (int r = 0; r < 9; r++) {
                int[] want = r == row ? new int[] {0, 5, 7} : new int[] {12, 0, 0};
                for (int s = 0; s < 3; s++) due.is("row " + r + ", STATE " + s, x.weight(2, r, s), want[s]);
            }
        }
    }

    @Says(promise = 6, words = "BAD: the NODE")
    static void weighNoNode(Due due) {
        for (int n : Scenes.NO_NODE) {
            allBad(due, "weigh(" + n + ", 0, 6, 6)", x -> x.weigh(n, 0, 6, 6));
            allBad(due, "ahead of BEYOND, " + n, x -> x.weigh(n, -1, 6, 6));
        }
    }

    /** Their sums and what they leave run over, to 12 or to what is left of it. */
    @Says(promise = 6, words = "WEIGHTS;")
    static void weightsThatRunOver(Due due) {
        int[][] over = {{GREATEST, GREATEST}, {LEAST, LEAST}, {GREATEST, LEAST + 13}, {LEAST + 13, GREATEST},
            {LEAST + 6, LEAST + 6}, {GREATEST, 1}, {1, GREATEST}, {LEAST, 12}, {12, LEAST}, {GREATEST, LEAST},
            {1 << 30, 1 << 30}, {-1, 13}, {13, -1}, {-12, 24}};
        for (int[] w : over) {
            allBad(due, "of 2: " + w[0] + ", " + w[1], x -> x.weigh(0, 0, w[0], w[1]));
            allBad(due, "of 3: " + w[0] + ", " + w[1], x -> x.weigh(1, 0, w[0], w[1]));
        }
    }

    @Says(promise = 6, words = "BAD: the NODE, WEIGHTS; UNLIKE; BEYOND")
    static void weighRefusalsInOrder(Due due) {
        for (int n : new int[] {2, 7, 3, 4, 6}) {
            allBad(due, "WEIGHTS ahead of UNLIKE", x -> x.weigh(n, 0, 7, 6));
            due.refusesAs(UNLIKE, "UNLIKE ahead of BEYOND", MIXED, x -> x.weigh(n, -1, 6, 6));
        }
        allBad(due, "WEIGHTS ahead of BEYOND, 3 STATES", x -> x.weigh(1, 2, 7, 6));
        allBad(due, "WEIGHTS ahead of BEYOND, 2 STATES", x -> x.weigh(5, 6, 6, 5));
    }

    /** What is left of 12 is looked at for CHANCES alone. */
    @Says(promise = 6, words = "UNLIKE;")
    static void weighUnlike(Due due) {
        for (int n : new int[] {2, 7, 3, 4, 6}) {
            for (int[] w : new int[][] {{0, 0}, {12, 0}, {0, 12}, {6, 5}, {6, 6}}) {
                due.refusesAs(UNLIKE, "weigh(" + n + ", 0, ..)", MIXED, x -> x.weigh(n, 0, w[0], w[1]));
            }
        }
    }

    /** 1431655766 and 1073741824 times the STATES come round to small numbers. */
    @Says(promise = 6, words = "BEYOND: no such row")
    static void weighBeyond(Due due) {
        for (int r : new int[] {-1, 1, 2, 1431655766, 1 << 30, LEAST, GREATEST}) {
            due.refusesAs(BEYOND, "no PARENTS, row " + r, MIXED, x -> x.weigh(0, r, 6, 6));
        }
        for (int r : new int[] {-1, 2, 3, 8, 1431655766, 1 << 30, LEAST, GREATEST}) {
            due.refusesAs(BEYOND, "two rows, row " + r, MIXED, x -> x.weigh(1, r, 6, 6));
        }
        for (int r : new int[] {-1, 6, 9, 1 << 30, LEAST}) {
            due.refusesAs(BEYOND, "six rows, row " + r, MIXED, x -> x.weigh(5, r, 6, 6));
        }
        due.is("the last of six", Scenes.mixed().weigh(5, 5, 6, 6), 1);
    }

    // ---- 7 weight

    @Says(promise = 7, words = "WEIGHT of a STATE in a row")
    static void weightsFromFirstToLast(Due due) {
        int[] want = {2, 3, 7, 6, 6, 0};
        for (int i = 0; i < 6; i++) due.is("place " + i, Scenes.mixed().weight(1, i / 3, i % 3), want[i]);
        due.is("the last row", Scenes.mixed().weight(5, 5, 1), 9);
    }

    @Says(promise = 7, words = "BAD: the NODE")
    static void weightOfNoNode(Due due) {
        for (int n : Scenes.NO_NODE) {
            allBad(due, "weight(" + n + ", 0, 0)", x -> x.weight(n, 0, 0));
            allBad(due, "ahead of BEYOND", x -> x.weight(n, -1, -1));
        }
    }

    @Says(promise = 7, words = "UNLIKE")
    static void weightUnlike(Due due) {
        for (int n : new int[] {2, 7, 3, 4, 6}) {
            due.refusesAs(UNLIKE, "weight(" + n + ", 0, 0)", MIXED, x -> x.weight(n, 0, 0));
            due.refusesAs(UNLIKE, "ahead of BEYOND", MIXED, x -> x.weight(n, -1, 9));
        }
    }

    @Says(promise = 7, words = "BEYOND: no such row, STATE")
    static void weightBeyond(Due due) {
        int[][] beyond = {{-1, 0}, {2, 0}, {0, -1}, {0, 3}, {1, 3}, {-1, 3}, {1, -1}, {2, -3}, {1431655766, 0},
            {GREATEST, 0}, {LEAST, 0}, {0, GREATEST}, {0, LEAST}};
        for (int[] b : beyond) {
            due.refusesAs(BEYOND, "weight(1, " + b[0] + ", " + b[1] + ")", MIXED, x -> x.weight(1, b[0], b[1]));
        }
        due.refusesAs(BEYOND, "STATE 2 of 2", MIXED, x -> x.weight(5, 0, 2));
        due.refusesAs(BEYOND, "row 1 of 1", MIXED, x -> x.weight(0, 1, 0));
    }
}
