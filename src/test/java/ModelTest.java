import java.util.Random;

/** Many runs of calls, the same ones each time, answered by the program as by the Model. */
public final class ModelTest {
    private static final int RUNS = 700, CALLS = 160;
    private static final int[] WILD = {-1, -9, 4, 5, 9, 10, 11, 27, 28, 31, 32, 33, 100, 101, -100, -101,
        Integer.MAX_VALUE, Integer.MIN_VALUE, Integer.MAX_VALUE - 1};
    private static final Due DUE = new Due("ModelTest");

    private final Random dice;
    private final SightChart x = new SightChart();
    private final Model m = new Model();
    private final int run;
    private final int mostWorlds;

    private ModelTest(int run) {
        this.run = run;
        dice = new Random(run);
        int[] sizes = {16, 32, 48, 72, 108, 144, 243};
        mostWorlds = sizes[run % sizes.length];
    }

    public static void main(String[] args) {
        for (int run = 0; run < RUNS && !DUE.anyWrong(); run++) new ModelTest(run).go();
        DUE.end();
    }

    private void go() {
        boolean rich = run % 4 != 0;
        if (rich) buildRich();
        for (int i = 0; i < CALLS && !DUE.anyWrong(); i++) {
            if (!rich && i < 60) build(dice.nextInt(8));
            else if (dice.nextInt(10) < 2) build(rich ? 3 + dice.nextInt(5) : dice.nextInt(8));
            else ask(dice.nextInt(20));
            compare("call " + i);
        }
    }

    /** A chart in which SIGHTS, memory and CHANCES matter: calls by chance alone seldom build one. */
    private void buildRich() {
        int[] kinds = {1, 2, 1, 1, 2, 1, 2};
        int skip = dice.nextInt(3);
        for (int k = 0; k < kinds.length && m.nodes.size() < 7; k++) {
            int kind = k < 2 && skip == k ? 3 - kinds[k] : kinds[k];
            boolean full = run % 14 == 6;
            int states = full || m.worldCount() * 3 <= mostWorlds && dice.nextInt(3) == 0 ? 3 : 2;
            if (m.worldCount() * states > mostWorlds) break;
            due("node", x.node(kind, states), m.node(kind, states));
            int n = m.nodes.size() - 1;
            for (int p = 0; p < n; p++) {
                if (kind == 1 && dice.nextInt(2) == 0) due("parent", x.parent(n, p), m.parent(n, p));
                if (kind == 2 && dice.nextInt(5) < 2) due("sight", x.sight(n, p), m.sight(n, p));
            }
            for (int r = 0; kind == 1 && r < m.told(n, 4); r++) weighRow(n, r);
        }
        for (int w = 1 + dice.nextInt(3); w > 0; w--) buildRichWorth();
        compare("rich chart");
    }

    private void weighRow(int n, int r) {
        int w0 = dice.nextInt(5) == 0 ? 12 * dice.nextInt(2) : dice.nextInt(13);
        int w1 = m.nodes.get(n).states == 2 ? 12 - w0 : dice.nextInt(13 - w0);
        due("weigh", x.weigh(n, r, w0, w1), m.weigh(n, r, w0, w1));
    }

    /** Small numbers now and then, so that STATES are as good as others. */
    private void buildRichWorth() {
        due("node", x.node(0, 0), m.node(0, 0));
        int n = m.nodes.size() - 1;
        for (int k = 0; k < 5; k++) {
            int p = dice.nextInt(n);
            due("parent", x.parent(n, p), m.parent(n, p));
        }
        int wide = dice.nextInt(3) == 0 ? 2 : 100;
        for (int p = 0; p < m.told(n, 4); p++) {
            int v = dice.nextInt(2 * wide + 1) - wide;
            due("worth", x.worth(n, p, v), m.worth(n, p, v));
        }
    }

    /** Up to below n, but now and then a number that is none. */
    private int upTo(int n) {
        if (dice.nextInt(40) == 0) return WILD[dice.nextInt(WILD.length)];
        return dice.nextInt(Math.max(1, Math.min(n, 99)) + (dice.nextInt(12) == 0 ? 1 : 0));
    }

    private int anyNode() {
        return upTo(m.nodes.size());
    }

    private int nodeOf(int kind) {
        if (dice.nextInt(15) == 0) return anyNode();
        for (int tries = 0; tries < 20; tries++) {
            int n = dice.nextInt(Math.max(1, m.nodes.size()));
            if (n < m.nodes.size() && m.nodes.get(n).kind == kind) return n;
        }
        return anyNode();
    }

    private int number() {
        return dice.nextInt(30) == 0 ? WILD[dice.nextInt(WILD.length)] : dice.nextInt(201) - 100;
    }

    private void due(String call, long got, long want) {
        DUE.is("run " + run + ": " + call, got, want);
    }

    private void compare(String when) {
        due(when + " digest()", x.digest(), m.digest());
        due(when + " finding()", x.finding(), m.finding);
        due(when + " asked()", x.asked(), m.asked);
        due(when + " upper()", x.upper(), m.upper);
        due(when + " lower()", x.lower(), m.lower);
        for (int f = 0; f <= 6; f++) due(when + " findings()", x.findings(f), m.findings(f));
        for (int what = -1; what <= 5; what++) due(when + " count()", x.count(what), m.count(what));
    }

    private void build(int which) {
        switch (which) {
            case 0: makeNode(); break;
            case 1: case 2: {
                int n = nodeOf(dice.nextBoolean() ? 0 : 1);
                int p = dice.nextInt(10) == 0 ? anyNode() : upTo(n);
                due("parent(" + n + ", " + p + ")", x.parent(n, p), m.parent(n, p));
                break;
            }
            case 3: {
                int n = nodeOf(2);
                int p = nodeOf(1);
                if (dice.nextInt(3) == 0) due("blind(" + n + ", " + p + ")", x.blind(n, p), m.blind(n, p));
                else due("sight(" + n + ", " + p + ")", x.sight(n, p), m.sight(n, p));
                break;
            }
            case 4: case 5: weighSome(); break;
            case 6: {
                int n = nodeOf(0);
                int p = upTo(dice.nextInt(4) == 0 ? 27 : 4);
                int v = number();
                due("worth(" + n + ", " + p + ", " + v + ")", x.worth(n, p, v), m.worth(n, p, v));
                break;
            }
            default: buildByRow(); break;
        }
    }

    private void makeNode() {
        int kind = upTo(3);
        int states = 2 + upTo(2);
        if (kind > 0 && kind < 3 && m.worldCount() * 3 > mostWorlds && dice.nextInt(30) != 0) kind = 0;
        if (kind == 0 && m.nodes.size() < 4 && dice.nextInt(4) != 0) kind = 2;
        due("node(" + kind + ", " + states + ")", x.node(kind, states), m.node(kind, states));
    }

    private void weighSome() {
        int n = nodeOf(1);
        int r = upTo(dice.nextInt(3) == 0 ? 9 : 3);
        int w0 = dice.nextInt(4) == 0 ? 12 * dice.nextInt(2) : upTo(13);
        int w1 = dice.nextInt(5) == 0 ? upTo(13) : dice.nextInt(Math.max(0, Math.min(12, 12 - w0)) + 1);
        boolean two = n >= 0 && n < m.nodes.size() && m.nodes.get(n).states == 2;
        if (two && dice.nextInt(10) != 0) w1 = 12 - w0;
        due("weigh(" + n + ", " + r + ", " + w0 + ", " + w1 + ")", x.weigh(n, r, w0, w1), m.weigh(n, r, w0, w1));
    }

    private void buildByRow() {
        int r = upTo(4);
        if (dice.nextInt(3) == 0) {
            int n = upTo(28);
            due("row(" + r + ", " + n + ")", x.row(r, n), m.row(r, n));
        }
        for (int k = 0; k < 9; k++) {
            int i = upTo(10);
            int v = dice.nextBoolean() ? number() : dice.nextInt(3);
            due("lay(" + r + ", " + i + ", " + v + ")", x.lay(r, i, v), m.lay(r, i, v));
        }
        if (dice.nextBoolean()) {
            int n = nodeOf(0);
            due("fill(" + n + ", " + r + ")", x.fill(n, r), m.fill(n, r));
        }
        if (dice.nextInt(9) == 0) due("tear(" + r + ")", x.tear(r), m.tear(r));
        int[] c = {upTo(4), upTo(8), upTo(4), upTo(8), upTo(10)};
        due("copy", x.copy(c[0], c[1], c[2], c[3], c[4]), m.copy(c[0], c[1], c[2], c[3], c[4]));
    }

    private void ask(int which) {
        int a = which < 12 ? anyNode() : 0;
        int c = nodeOf(2);
        int h = nodeOf(1);
        switch (which) {
            case 0: due("best()", x.best(), m.best()); break;
            case 1: askDoes(c); break;
            case 2: askDoes(c); break;
            case 3: due("bestForgetting()", x.bestForgetting(), m.bestForgetting()); break;
            case 4: due("lost()", x.lost(), m.lost()); break;
            case 5: due("worthOf(" + c + ", " + h + ")", x.worthOf(c, h), m.worthOf(c, h)); break;
            case 6: due("knowing()", x.knowing(), m.knowing()); break;
            case 7: due("inHand(" + h + ")", x.inHand(h), m.inHand(h)); break;
            case 8: due("needless(" + c + ", " + h + ")", x.needless(c, h), m.needless(c, h)); break;
            case 9: case 10: askSpan(); break;
            case 11: {
                int s = upTo(3);
                due("chance(" + a + ", " + s + ")", x.chance(a, s), m.chance(a, s));
                break;
            }
            case 12: due("end(true)", x.end(true), m.end(true)); break;
            case 13: due("end(false)", x.end(false), m.end(false)); break;
            case 14: case 15: {
                int s = dice.nextInt(3) != 0 ? -9 : upTo(3);
                due("firm(" + c + ", " + s + ")", x.firm(c, s), m.firm(c, s));
                break;
            }
            default: askChart(); break;
        }
    }

    private void askSpan() {
        int n = nodeOf(0);
        int p = upTo(n >= 0 && n < m.nodes.size() ? Math.max(1, m.nodes.get(n).table.length) : 4);
        boolean high = dice.nextBoolean();
        due("span(" + n + ", " + p + ", " + high + ")", x.span(n, p, high), m.span(n, p, high));
    }

    /** Most times with a ROW of STATES that there are, FIRM ones most times in theirs. */
    private void askDoes(int c) {
        int r = upTo(4);
        if (dice.nextInt(12) != 0) due("row(" + r + ", 10)", x.row(r, 10), m.row(r, 10));
        for (int n = 0; n < m.nodes.size(); n++) {
            Model.N node = m.nodes.get(n);
            int s = node.kind == 0 ? number() : upTo(node.states);
            if (node.firm != -9 && dice.nextInt(4) != 0) s = node.firm;
            due("lay(" + r + ", " + n + ", " + s + ")", x.lay(r, n, s), m.lay(r, n, s));
        }
        due("does(" + c + ", " + r + ")", x.does(c, r), m.does(c, r));
    }

    private void askChart() {
        int n = anyNode();
        int k = upTo(5);
        int s = upTo(3);
        due("told(" + n + ", " + k + ")", x.told(n, k), m.told(n, k));
        due("mark(" + n + ", " + k + ")", x.mark(n, k), m.mark(n, k));
        due("weight(" + n + ", " + k + ", " + s + ")", x.weight(n, k, s), m.weight(n, k, s));
        due("mean(" + n + ")", x.mean(n), m.mean(n));
        due("meanSights()", x.meanSights(), m.meanSights());
    }
}
