import java.math.BigInteger;
import java.util.ArrayList;
import java.util.List;
import java.util.function.Supplier;
import java.util.function.ToIntFunction;

/** Promises 30 to 36, what is told: for each sentence that names a boundary case a test of its own. */
public final class TellingSentencesTest {
    private static final int BAD = Scenes.BAD, LEAST = Scenes.LEAST, GREATEST = Scenes.GREATEST;
    private static final Supplier<SightChart> MIXED = Scenes::mixed;

    public static void main(String[] args) throws ReflectiveOperationException {
        Sentences.run(TellingSentencesTest.class);
    }

    /** 0: a CHOICE; 1: its WORTH, 5 and 3; 2: a CHANCE; ROW 0 with 8. */
    private static SightChart telling() {
        SightChart x = Scenes.either(5, 3);
        x.node(1, 2);
        x.weigh(2, 0, 4, 8);
        Scenes.lays(x, 0, 8);
        return x;
    }

    // ---- 30 asked

    @Says(promise = 30, words = "What the latest worth(), mean(), span(), end(), lay()")
    static void askedByEachOfFive(Due due) {
        SightChart x = telling();
        x.worth(1, 0, 6);
        due.is("worth()", x.asked(), 5);
        x.mean(1);
        due.is("mean()", x.asked(), 4);
        x.span(1, 0, false);
        due.is("span()", x.asked(), 3);
        x.end(true);
        due.is("end()", x.asked(), 6);
        x.lay(0, 0, 9);
        due.is("lay()", x.asked(), 8);
        due.is("asked() again", x.asked(), 8);
        x.lay(0, 0, 0);
        due.is("the latest of two", x.asked(), 9);
    }

    @Says(promise = 30, words = "What the latest worth(), mean(), span(), end(), lay()")
    static void askedByNoOther(Due due) {
        SightChart x = telling();
        x.worth(1, 0, 7);
        x.node(2, 2);
        x.node(0, 0);
        x.parent(4, 2);
        x.sight(3, 2);
        x.needless(3, 2);
        x.blind(3, 2);
        x.firm(3, 1);
        x.weight(2, 0, 1);
        x.told(1, 4);
        x.mark(2, 1);
        x.meanSights();
        x.best();
        x.does(0, 0);
        x.bestForgetting();
        x.lost();
        x.worthOf(3, 2);
        x.knowing();
        x.inHand(2);
        x.chance(2, 0);
        x.row(1, 9);
        x.copy(0, 0, 1, 0, 1);
        x.fill(4, 0);
        x.tear(0);
        x.count(4);
        x.digest();
        due.is("asked() as before", x.asked(), 5);
        due.is("nothing was refused", x.finding(), 0);
    }

    @Says(promise = 30, words = "that was not refused told")
    static void askedNotByWhatIsRefused(Due due) {
        List<ToIntFunction<SightChart>> refused = List.of(x -> x.worth(1, 0, 101), x -> x.worth(0, 0, 1),
            x -> x.worth(1, 2, 1), x -> x.mean(3), x -> x.mean(0), x -> x.span(1, 2, true), x -> x.span(2, 0, true),
            x -> x.lay(0, 1, 1), x -> x.lay(1, 0, 1), x -> x.lay(4, 0, 1));
        for (ToIntFunction<SightChart> call : refused) {
            SightChart x = telling();
            x.lay(0, 0, 1);
            due.is("refused", call.applyAsInt(x) < 0 ? 1 : 0, 1);
            due.is("asked() as before", x.asked(), 8);
        }
    }

    @Says(promise = 30, words = "0 before")
    static void askedBeforeIs0(Due due) {
        SightChart x = new SightChart();
        due.is("new", x.asked(), 0);
        x.lay(0, 0, 5);
        x.mean(0);
        x.best();
        due.is("nothing told yet", x.asked(), 0);
        x.node(0, 0);
        x.worth(0, 0, -100);
        due.asks("a number below 0", x, x.end(true), -100);
    }

    // ---- 31 upper, 32 lower

    /** All seven calls that tell a fraction, each with another one. */
    @Says(promise = 31, words = "The upper number of the fraction that was told last")
    static void fractionsByEachOfSeven(Due due) {
        SightChart x = Scenes.outing();
        x.worth(3, 3, 35);
        due.tells("best()", x, x.best(), 10, 3);
        due.tells("bestForgetting()", x, x.bestForgetting(), 10, 3);
        due.tells("worthOf()", x, x.worthOf(2, 0), 20, 1);
        due.tells("lost()", x, x.lost(), 0, 1);
        due.tells("chance()", x, x.chance(1, 0), 5, 12);
        due.tells("inHand()", x, x.inHand(0), 95, 3);
        due.tells("knowing()", x, x.knowing(), 20, 1);
        due.is("upper() again", x.upper(), 20);
    }

    @Says(promise = 31, words = "The upper number of the fraction that was told last")
    static void fractionsByNoOther(Due due) {
        SightChart x = Scenes.outing();
        x.sight(2, 1);
        x.chance(1, 0);
        x.needless(2, 1);
        x.span(3, 0, true);
        x.end(true);
        x.does(2, 0);
        x.mean(3);
        x.meanSights();
        x.worth(3, 0, 9);
        x.worthOf(2, 1);
        x.inHand(2);
        x.chance(3, 0);
        x.chance(0, 2);
        due.is("upper()", x.upper(), 5);
        due.is("lower()", x.lower(), 12);
    }

    @Says(promise = 31, words = "0 before")
    static void upperBeforeIs0(Due due) {
        SightChart x = Scenes.nodes(0);
        due.is("new", new SightChart().upper(), 0);
        x.worth(0, 0, 5);
        x.mean(0);
        x.chance(0, 0);
        x.inHand(0);
        due.is("none told yet", x.upper(), 0);
    }

    @Says(promise = 32, words = "Its lower number")
    static void lowerIsThatOfTheSameFraction(Due due) {
        SightChart x = Scenes.nodes(13);
        for (int w = 0; w <= 12; w++) {
            x.weigh(0, 0, w, 0);
            x.chance(0, 0);
            BigInteger common = BigInteger.valueOf(w).gcd(BigInteger.valueOf(12));
            due.is("upper() of " + w, x.upper(), w / common.longValue());
            due.is("lower() of " + w, x.lower(), 12 / common.longValue());
        }
    }

    @Says(promise = 32, words = "1 before")
    static void lowerBeforeIs1(Due due) {
        SightChart x = Scenes.nodes(12);
        due.is("new", new SightChart().lower(), 1);
        x.weigh(0, 0, 5, 7);
        x.chance(0, 2);
        x.chance(1, 0);
        due.is("none told yet", x.lower(), 1);
    }

    // ---- 33 count

    @Says(promise = 33, words = "0 NODES, 1 CHANCES, 2 CHOICES (FIRM ones, too), 3 WORTHS")
    static void countsOfEachKind(Due due) {
        int[] want = {8, 3, 3, 2};
        for (int what = 0; what < 4; what++) due.is("count(" + what + ")", Scenes.mixed().count(what), want[what]);
        int[] full = {10, 2, 3, 5};
        for (int what = 0; what < 4; what++) due.is("count(" + what + ")", Scenes.fullOfAll().count(what), full[what]);
        SightChart x = Scenes.nodes(22, 22);
        x.firm(0, 0);
        x.firm(1, 1);
        due.is("all FIRM", x.count(2), 2);
        x.node(1, 9);
        due.is("a refused one is not counted", x.count(0), 2);
    }

    @Says(promise = 33, words = "4 WORLDS (1 without any)")
    static void countsOfWorlds(Due due) {
        due.is("no NODES", new SightChart().count(4), 1);
        due.is("WORTHS alone", Scenes.nodes(0, 0).count(4), 1);
        due.is("one CHANCE", Scenes.nodes(12).count(4), 2);
        due.is("one CHOICE", Scenes.nodes(23).count(4), 3);
        due.is("the most", Scenes.fullOfAll().count(4), 243);
        SightChart x = Scenes.nodes(12, 23);
        x.firm(1, 2);
        due.is("a FIRM one is as many", x.count(4), 6);
        x.node(2, 1);
        due.is("a refused one makes none", x.count(4), 6);
    }

    @Says(promise = 33, words = "BAD")
    static void countBad(Due due) {
        for (int what : new int[] {-1, 5, 6, -9, LEAST, GREATEST}) {
            due.refuses(BAD, "count(" + what + ")", MIXED, x -> x.count(what));
        }
    }

    // ---- 34 finding, 35 findings

    private static int find(SightChart x, int finding) {
        switch (finding) {
            case Scenes.NOTHING: return x.tear(0);
            case Scenes.BEYOND: return x.worth(0, 1, 0);
            case Scenes.UNLIKE: return x.inHand(0);
            case Scenes.NOUGHT: return x.meanSights();
            default: return x.row(0, -1);
        }
    }

    @Says(promise = 34, words = "The latest FINDING")
    static void theLatestOfEachTwo(Due due) {
        for (int first = 1; first <= 5; first++) {
            for (int then = 1; then <= 5; then++) {
                SightChart x = Scenes.nodes(0);
                find(x, first);
                due.is(first + " answered", x.finding(), first);
                find(x, then);
                due.is(first + ", then " + then, x.finding(), then);
                due.is("asked again", x.finding(), then);
            }
        }
    }

    @Says(promise = 34, words = "The latest FINDING")
    static void findingStaysWithoutAnother(Due due) {
        SightChart x = Scenes.nodes(0);
        find(x, Scenes.NOUGHT);
        x.node(3, 2);
        x.node(1, 3);
        x.span(0, 0, true);
        x.best();
        x.row(0, 1);
        due.is("taken calls, BAD and STATE", x.finding(), Scenes.NOUGHT);
        x = Scenes.fullOfAll();
        find(x, Scenes.UNLIKE);
        int before = x.finding();
        x.node(0, 0);
        due.is("FULL", x.finding(), before);
    }

    @Says(promise = 34, words = "(0 before any)")
    static void findingBeforeIs0(Due due) {
        due.is("new", new SightChart().finding(), 0);
        SightChart x = new SightChart();
        x.node(3, 2);
        x.count(9);
        x.findings(0);
        due.is("BAD is no FINDING", x.finding(), 0);
    }

    @Says(promise = 35, words = "How often a FINDING (1 .. 5) was answered")
    static void findingsOfEach(Due due) {
        for (int f = 1; f <= 5; f++) {
            SightChart x = Scenes.nodes(0);
            for (int times = 0; times <= 6; times++) {
                for (int g = 1; g <= 5; g++) due.is("findings(" + g + ")", x.findings(g), g == f ? times : 0);
                find(x, f);
            }
        }
    }

    /** Where several FINDINGS fit, one is answered and one is counted. */
    @Says(promise = 35, words = "How often a FINDING (1 .. 5) was answered")
    static void findingsOfOneAnswerIsOne(Due due) {
        due.refusesAs(Scenes.UNLIKE, "UNLIKE, NOTHING and SIZE", MIXED, x -> x.does(7, Scenes.MISSING));
        due.refusesAs(Scenes.SIZE, "SIZE, NOTHING and BEYOND", MIXED, x -> x.copy(2, 99, 2, 99, -1));
        due.refusesAs(Scenes.UNLIKE, "UNLIKE and BEYOND", MIXED, x -> x.weight(3, 9, 9));
        due.refuses(BAD, "BAD and UNLIKE", MIXED, x -> x.worth(3, 0, 101));
    }

    @Says(promise = 35, words = "BAD")
    static void findingsBad(Due due) {
        for (int f : new int[] {0, 6, -1, 7, -3, LEAST, GREATEST}) {
            due.refuses(BAD, "findings(" + f + ")", MIXED, x -> x.findings(f));
        }
    }

    // ---- 36 digest

    /** Without a bound, and cut to a long at the end. */
    private static long digestOf(int... values) {
        BigInteger h = BigInteger.valueOf(17);
        for (int v : values) h = h.multiply(BigInteger.valueOf(31)).add(BigInteger.valueOf(v));
        return h.longValue();
    }

    @Says(promise = 36, words = "h = 17; then h = 31 h + v for each v")
    static void digestOfNothing(Due due) {
        due.is("no NODES, no ROWS", new SightChart().digest(), digestOf(-1, -1, -1, -1));
    }

    @Says(promise = 36, words = "h = 17; then h = 31 h + v for each v")
    static void digestRunsOver(Due due) {
        SightChart x = new SightChart();
        int[] values = new int[4 + 4 * 27];
        int at = 0;
        for (int r = 0; r < 4; r++) {
            x.row(r, 27);
            values[at++] = 27;
            for (int i = 0; i < 27; i++) {
                int v = i % 2 == 0 ? GREATEST - r : LEAST + i;
                x.lay(r, i, v);
                values[at++] = v;
            }
        }
        due.is("four ROWS full of great numbers", x.digest(), digestOf(values));
    }

    @Says(promise = 36, words = "of each NODE told() 0 to 4, its PARENTS as told, its SIGHTS (bits of NODES)")
    static void digestOfParentsAndSights(Due due) {
        SightChart x = Scenes.nodes(12, 12, 12, 22, 0);
        Scenes.parents(x, 2, 1, 0);
        x.sight(3, 2);
        x.sight(3, 0);
        Scenes.parents(x, 4, 3, 2, 0);
        List<Integer> want = new ArrayList<>();
        add(want, 1, 2, 0, 0, 1, 0, 12, 0);
        add(want, 1, 2, 0, 0, 1, 0, 12, 0);
        add(want, 1, 2, 2, 0, 4, 1, 0, 0, 12, 0, 12, 0, 12, 0, 12, 0);
        add(want, 2, 2, 0, 2, 0, 5);
        add(want, 0, 0, 3, 0, 8, 3, 2, 0, 0, 0, 0, 0, 0, 0, 0, 0, 0);
        add(want, -1, -1, -1, -1);
        due.is("digest()", x.digest(), digestOf(want.stream().mapToInt(v -> v).toArray()));
    }

    private static void add(List<Integer> all, int... values) {
        for (int v : values) all.add(v);
    }

    /** The greatest TABLES: nine rows of three, and 27 places. */
    @Says(promise = 36, words = "its TABLE (of a CHANCE all WEIGHTS, row by row)")
    static void digestOfTables(Due due) {
        SightChart x = Scenes.nodes(13, 13, 13, 0);
        Scenes.parents(x, 2, 0, 1);
        Scenes.parents(x, 3, 2, 1, 0);
        List<Integer> want = new ArrayList<>();
        for (int n = 0; n < 2; n++) add(want, 1, 3, 0, 0, 1, 0, 12, 0, 0);
        add(want, 1, 3, 2, 0, 9, 0, 1, 0);
        for (int r = 0; r < 9; r++) {
            x.weigh(2, r, r, 1);
            add(want, r, 1, 11 - r);
        }
        add(want, 0, 0, 3, 0, 27, 2, 1, 0, 0);
        for (int p = 0; p < 27; p++) {
            x.worth(3, p, p - 100);
            add(want, p - 100);
        }
        add(want, -1, -1, -1, -1);
        due.is("digest()", x.digest(), digestOf(want.stream().mapToInt(v -> v).toArray()));
    }

    @Says(promise = 36, words = "of a FIRM one its STATE")
    static void digestOfFirmOnes(Due due) {
        SightChart x = Scenes.nodes(23, 22);
        due.is("free", x.digest(), digestOf(2, 3, 0, 0, 0, 0, 2, 2, 0, 0, 0, 0, -1, -1, -1, -1));
        for (int s = 0; s < 3; s++) {
            x.firm(0, s);
            due.is("FIRM in " + s, x.digest(), digestOf(3, 3, 0, 0, 0, 0, s, 2, 2, 0, 0, 0, 0, -1, -1, -1, -1));
        }
        x.firm(0, Scenes.NONE);
        due.is("free again", x.digest(), digestOf(2, 3, 0, 0, 0, 0, 2, 2, 0, 0, 0, 0, -1, -1, -1, -1));
    }

    @Says(promise = 36, words = "of each ROW its size (-1: missing) and places")
    static void digestOfRows(Due due) {
        SightChart x = new SightChart();
        x.row(0, 0);
        due.is("an empty one is not missing", x.digest(), digestOf(0, -1, -1, -1));
        Scenes.lays(x, 3, 5, -6);
        due.is("the last one", x.digest(), digestOf(0, -1, -1, 2, 5, -6));
        x.row(3, 1);
        due.is("shorter: what was there is gone", x.digest(), digestOf(0, -1, -1, 1, 0));
        x.tear(3);
        x.tear(0);
        due.is("torn", x.digest(), digestOf(-1, -1, -1, -1));
    }

    /** Not what was asked, told or found. */
    @Says(promise = 36, words = "of each ROW its size (-1: missing) and places")
    static void digestOfNothingElse(Due due) {
        SightChart x = Scenes.outing();
        long before = x.digest();
        x.end(true);
        x.best();
        x.meanSights();
        x.inHand(3);
        x.tear(0);
        x.span(3, 0, true);
        due.is("digest() as before", x.digest(), before);
        due.is("digest() again", x.digest(), before);
    }
}
