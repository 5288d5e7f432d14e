import java.util.Arrays;

/** A chart of CHANCES, CHOICES, SIGHTS and WORTHS, and what is best to do in it. */
public final class SightChart {
    public static final int BAD = -1, FULL = -2, FINDING = -3, STATE = -4, SPENT = -6, NONE = -9;

    private static final int WORTH = 0, CHANCE = 1, CHOICE = 2, FIRM = 3;
    private static final int NOTHING = 1, BEYOND = 2, UNLIKE = 3, NOUGHT = 4, SIZE = 5;
    private static final int FINDING_KINDS = 5;
    private static final int MOST_NODES = 10, MOST_WORLDS = 243, MOST_PLANS = 512;
    /** Each SLOT has 2 STATES at least, and 2 multiplied 9 times is 512. */
    private static final int MOST_SLOTS = 9;
    private static final int MOST_STATES = 3, MOST_PARENTS = 3, MOST_PARENTS_OF_CHANCE = 2;
    private static final int MOST_PLACES = 27, MOST_WORTH = 100, WHOLE_WEIGHT = 12;
    private static final int ROW_COUNT = 4, MISSING = -1;
    /** More steps than Euclid's way needs for any two longs. */
    private static final int DIVISOR_STEPS = 200;
    /** What a check answers if it refuses nothing; no refusal has this number. */
    private static final int ALLOWED = 0;

    private final Worlds worlds;
    private final Chart chart;
    private final Forgetting forgetting;
    private final int[][] rows;
    private final int[] sizes;
    private final int[] foundTimes;
    private int lastFound;
    private int lastAsked;
    private long upperTold;
    private long lowerTold;

    public SightChart() {
        worlds = new Worlds();
        chart = worlds.chart;
        forgetting = new Forgetting();
        rows = new int[ROW_COUNT][MOST_PLACES];
        sizes = new int[ROW_COUNT];
        Arrays.fill(sizes, MISSING);
        foundTimes = new int[FINDING_KINDS + 1];
        lowerTold = 1;
    }

    // ---- 1 the chart

    public int node(int kind, int states) {
        if (kind < WORTH || kind > CHOICE) return BAD;
        if (kind != WORTH && (states < 2 || states > MOST_STATES)) return BAD;
        if (chart.nodeCount >= MOST_NODES) return FULL;
        if (kind != WORTH && chart.worldCount * states > MOST_WORLDS) return SPENT;
        return chart.add(kind, kind == WORTH ? 0 : states);
    }

    public int parent(int node, int p) {
        if (!chart.has(node) || !chart.has(p) || p >= node) return BAD;
        Node child = chart.nodes[node];
        Node above = chart.nodes[p];
        if (above.kind == WORTH || child.isChildOf(p)) return BAD;
        if (child.kind == CHOICE) return find(UNLIKE);
        if (child.parentCount >= child.mostParents()) return FULL;
        child.addParent(p, above.states);
        return child.parentCount;
    }

    public int sight(int choice, int chance) {
        int refusal = refuseSight(choice, chance);
        if (refusal != ALLOWED) return refusal;
        Node node = chart.nodes[choice];
        node.sights |= 1 << chance;
        return Integer.bitCount(node.sights);
    }

    public int blind(int choice, int chance) {
        int refusal = refuseBlind(choice, chance);
        if (refusal != ALLOWED) return refusal;
        Node node = chart.nodes[choice];
        node.sights &= ~(1 << chance);
        return Integer.bitCount(node.sights);
    }

    public int weigh(int chance, int row, int w0, int w1) {
        if (!chart.has(chance)) return BAD;
        Node node = chart.nodes[chance];
        if (!areWeights(w0, w1) || !node.mayLeave(WHOLE_WEIGHT - w0 - w1)) return BAD;
        if (node.kind != CHANCE) return find(UNLIKE);
        if (!node.hasPlace(row)) return find(BEYOND);
        int from = row * node.states;
        node.put(from, w0);
        node.put(from + 1, w1);
        if (node.states == MOST_STATES) node.put(from + 2, WHOLE_WEIGHT - w0 - w1);
        return 1;
    }

    public int weight(int chance, int row, int state) {
        if (!chart.has(chance)) return BAD;
        Node node = chart.nodes[chance];
        if (node.kind != CHANCE) return find(UNLIKE);
        if (!node.hasPlace(row) || !node.hasState(state)) return find(BEYOND);
        return node.get(row * node.states + state);
    }

    public int worth(int node, int place, int v) {
        if (!chart.has(node) || v < -MOST_WORTH || v > MOST_WORTH) return BAD;
        Node changed = chart.nodes[node];
        if (changed.kind != WORTH) return find(UNLIKE);
        if (!changed.hasPlace(place)) return find(BEYOND);
        int before = changed.get(place);
        changed.put(place, v);
        return ask(before);
    }

    public int firm(int choice, int state) {
        if (!chart.has(choice)) return BAD;
        Node node = chart.nodes[choice];
        if (node.kind != CHOICE) return find(UNLIKE);
        if (state != NONE && !node.hasState(state)) return find(BEYOND);
        int before = node.firmState;
        node.firmState = state;
        return before;
    }

    public int told(int node, int what) {
        if (!chart.has(node) || what < 0 || what > 4) return BAD;
        return chart.nodes[node].tell(what);
    }

    public int mark(int node, int kind) {
        if (!chart.has(node) || kind < CHANCE || kind > FIRM) return BAD;
        Node marked = chart.nodes[node];
        if (!marked.is(kind)) return find(UNLIKE);
        if (kind == FIRM) return marked.firmState;
        return kind == CHANCE ? chart.countSeeing(node) : chart.countChildren(node);
    }

    public int mean(int node) {
        if (!chart.has(node)) return BAD;
        Node shared = chart.nodes[node];
        if (shared.kind != WORTH) return find(UNLIKE);
        if (shared.places < 1) return find(NOUGHT);
        int sum = 0;
        for (int i = 0; i < shared.places; i++) sum += shared.get(i);
        return ask(sum / shared.places);
    }

    public int meanSights() {
        int choices = chart.countKind(CHOICE);
        if (choices < 1) return find(NOUGHT);
        int sum = 0;
        for (int n = 0; n < chart.nodeCount; n++) sum += Integer.bitCount(chart.nodes[n].sights);
        return sum / choices;
    }

    // ---- 2 plans

    public int best() {
        return tellFraction(bestOfChart());
    }

    public int does(int choice, int row) {
        if (!chart.has(choice) || !isRow(row)) return BAD;
        Node node = chart.nodes[choice];
        if (node.kind != CHOICE) return find(UNLIKE);
        if (sizes[row] == MISSING) return find(NOTHING);
        if (sizes[row] < choice) return find(SIZE);
        worlds.takeChart();
        worlds.layOut();
        int key = worlds.keyOfRow(choice, rows[row]);
        if (key == NONE) return find(BEYOND);
        return node.firmState != NONE ? node.firmState : worlds.decide(choice, key);
    }

    public int bestForgetting() {
        if (forgetting.countPlans(chart) > MOST_PLANS) return SPENT;
        return tellFraction(forgetting.greatest(worlds));
    }

    public int lost() {
        if (forgetting.countPlans(chart) > MOST_PLANS) return SPENT;
        return tellFraction(bestOfChart() - forgetting.greatest(worlds));
    }

    public int worthOf(int choice, int chance) {
        int refusal = refuseSight(choice, chance);
        if (refusal != ALLOWED) return refusal;
        long now = bestOfChart();
        worlds.takeChart();
        worlds.supposeSight(choice, chance);
        return tellFraction(worlds.greatest() - now);
    }

    public int knowing() {
        long now = bestOfChart();
        worlds.takeChart();
        worlds.supposeAllSights();
        return tellFraction(worlds.greatest() - now);
    }

    public int inHand(int chance) {
        if (!chart.has(chance)) return BAD;
        if (chart.nodes[chance].kind != CHANCE) return find(UNLIKE);
        long now = bestOfChart();
        worlds.takeChart();
        worlds.supposeInHand(chance);
        return tellFraction(worlds.greatest() - now);
    }

    public int needless(int choice, int chance) {
        int refusal = refuseBlind(choice, chance);
        if (refusal != ALLOWED) return refusal;
        long now = bestOfChart();
        worlds.takeChart();
        worlds.supposeBlind(choice, chance);
        return worlds.greatest() == now ? 1 : 0;
    }

    public int span(int node, int place, boolean high) {
        if (!chart.has(node)) return BAD;
        Node moved = chart.nodes[node];
        if (moved.kind != WORTH) return find(UNLIKE);
        if (!moved.hasPlace(place)) return find(BEYOND);
        int first = chart.firstFree();
        if (first == NONE) return STATE;
        worlds.takeChart();
        worlds.layOut();
        return ask(worlds.farthest(first, moved, place, high ? 1 : -1));
    }

    public int chance(int node, int state) {
        if (!chart.has(node)) return BAD;
        Node asked = chart.nodes[node];
        if (asked.kind == WORTH) return find(UNLIKE);
        if (!asked.hasState(state)) return find(BEYOND);
        worlds.takeChart();
        worlds.settle();
        return tellFraction(worlds.weightOf(asked, state));
    }

    public int end(boolean most) {
        worlds.takeChart();
        worlds.settle();
        return ask(worlds.outermostWorth(most));
    }

    // ---- 3 rows, what is told

    public int row(int r, int n) {
        if (!isRow(r) || n > MOST_PLACES) return BAD;
        if (n < 0) return find(SIZE);
        Arrays.fill(rows[r], 0);
        sizes[r] = n;
        return n;
    }

    public int lay(int r, int i, int v) {
        if (!isRow(r)) return BAD;
        if (sizes[r] == MISSING) return find(NOTHING);
        if (i < 0 || i >= sizes[r]) return find(BEYOND);
        int before = rows[r][i];
        rows[r][i] = v;
        return ask(before);
    }

    public int tear(int r) {
        if (!isRow(r)) return BAD;
        if (sizes[r] == MISSING) return find(NOTHING);
        sizes[r] = MISSING;
        return 1;
    }

    public int copy(int r, int i, int to, int j, int n) {
        if (!isRow(r) || !isRow(to)) return BAD;
        if (n < 0) return find(SIZE);
        if (sizes[r] == MISSING || sizes[to] == MISSING) return find(NOTHING);
        if (i < 0 || i > sizes[r] - n || j < 0 || j > sizes[to] - n) return find(BEYOND);
        System.arraycopy(rows[r], i, rows[to], j, n);
        return 1;
    }

    public int fill(int node, int r) {
        if (!chart.has(node) || !isRow(r)) return BAD;
        Node filled = chart.nodes[node];
        if (filled.kind != WORTH) return find(UNLIKE);
        if (sizes[r] == MISSING) return find(NOTHING);
        int n = Math.min(filled.places, sizes[r]);
        for (int i = 0; i < n; i++) {
            filled.put(i, Math.max(-MOST_WORTH, Math.min(MOST_WORTH, rows[r][i])));
        }
        return n;
    }

    public int asked() {
        return lastAsked;
    }

    public long upper() {
        return upperTold;
    }

    public long lower() {
        return lowerTold;
    }

    public int count(int what) {
        switch (what) {
            case 0: return chart.nodeCount;
            case 1: return chart.countKind(CHANCE);
            case 2: return chart.countKind(CHOICE);
            case 3: return chart.countKind(WORTH);
            case 4: return chart.worldCount;
            default: return BAD;
        }
    }

    public int finding() {
        return lastFound;
    }

    public int findings(int f) {
        return f < 1 || f > FINDING_KINDS ? BAD : foundTimes[f];
    }

    public long digest() {
        long h = 17;
        for (int n = 0; n < chart.nodeCount; n++) h = chart.nodes[n].digestOn(h);
        for (int r = 0; r < ROW_COUNT; r++) {
            h = 31 * h + sizes[r];
            for (int i = 0; i < sizes[r]; i++) h = 31 * h + rows[r][i];
        }
        return h;
    }

    // ---- checks, and how answers are told

    private static boolean isRow(int r) {
        return r >= 0 && r < ROW_COUNT;
    }

    /** Each is looked at alone first, so that their sum can't run over. */
    private static boolean areWeights(int w0, int w1) {
        return w0 >= 0 && w0 <= WHOLE_WEIGHT && w1 >= 0 && w1 <= WHOLE_WEIGHT - w0;
    }

    private int refuseSight(int choice, int chance) {
        if (!chart.has(choice) || !chart.has(chance) || chance >= choice) return BAD;
        Node node = chart.nodes[choice];
        if (node.kind != CHOICE || chart.nodes[chance].kind != CHANCE) return find(UNLIKE);
        return node.sees(chance) ? STATE : ALLOWED;
    }

    private int refuseBlind(int choice, int chance) {
        if (!chart.has(choice) || !chart.has(chance)) return BAD;
        Node node = chart.nodes[choice];
        if (node.kind != CHOICE) return find(UNLIKE);
        return node.sees(chance) ? ALLOWED : STATE;
    }

    private int find(int f) {
        if (f < 1 || f > FINDING_KINDS) return FINDING;
        lastFound = f;
        foundTimes[f]++;
        return FINDING;
    }

    private int ask(int v) {
        lastAsked = v;
        return 1;
    }

    private long bestOfChart() {
        worlds.takeChart();
        return worlds.greatest();
    }

    /** All sums over WORLDS are whole numbers of the same part, chart.wholeWeight(). */
    private int tellFraction(long sum) {
        long whole = chart.wholeWeight();
        long common = commonDivisor(Math.abs(sum), whole);
        if (common < 1) return 1;
        upperTold = sum / common;
        lowerTold = whole / common;
        return 1;
    }

    private static long commonDivisor(long a, long b) {
        long greater = a;
        long lesser = b;
        for (int i = 0; i < DIVISOR_STEPS && lesser != 0; i++) {
            long rest = greater % lesser;
            greater = lesser;
            lesser = rest;
        }
        return greater;
    }

    /** A NODE of any KIND; a FIRM one is a CHOICE with a firmState. */
    private static final class Node {
        int kind;
        int states;
        /** How far apart two WORLDS are that differ by one STATE of this NODE alone. */
        int stride;
        int firmState;
        int sights;
        int parentCount;
        int places;
        final int[] parents = new int[MOST_PARENTS];
        final int[] table = new int[MOST_PLACES];

        void begin(int newKind, int newStates, int newStride) {
            kind = newKind;
            states = newStates;
            stride = newStride;
            firmState = NONE;
            places = kind == CHOICE ? 0 : 1;
            clearTable();
        }

        void clearTable() {
            Arrays.fill(table, 0);
            if (kind != CHANCE || states < 1) return;
            for (int i = 0; i < MOST_PLACES; i += states) table[i] = WHOLE_WEIGHT;
        }

        /** Only a CHANCE has WEIGHTS: what they leave can be no fault of a NODE of another KIND. */
        boolean mayLeave(int rest) {
            return kind != CHANCE || states == MOST_STATES || rest == 0;
        }

        int mostParents() {
            return kind == CHANCE ? MOST_PARENTS_OF_CHANCE : MOST_PARENTS;
        }

        boolean isChildOf(int p) {
            for (int k = 0; k < parentCount && k < MOST_PARENTS; k++) {
                if (parents[k] == p) return true;
            }
            return false;
        }

        void addParent(int p, int statesOfParent) {
            if (parentCount >= MOST_PARENTS) return;
            parents[parentCount] = p;
            parentCount++;
            places *= statesOfParent;
            clearTable();
        }

        boolean is(int asked) {
            return asked == FIRM ? isFirm() : kind == asked;
        }

        boolean isFirm() {
            return kind == CHOICE && firmState != NONE;
        }

        boolean isFree() {
            return kind == CHOICE && firmState == NONE;
        }

        boolean sees(int n) {
            return (sights >> n & 1) != 0;
        }

        boolean hasState(int state) {
            return state >= 0 && state < states;
        }

        boolean hasPlace(int place) {
            return place >= 0 && place < places;
        }

        int stateIn(int world) {
            return stride > 0 && states > 0 ? world / stride % states : 0;
        }

        int get(int i) {
            return i >= 0 && i < MOST_PLACES ? table[i] : 0;
        }

        void put(int i, int v) {
            if (i >= 0 && i < MOST_PLACES) table[i] = v;
        }

        int tell(int what) {
            switch (what) {
                case 0: return isFirm() ? FIRM : kind;
                case 1: return states;
                case 2: return parentCount;
                case 3: return Integer.bitCount(sights);
                default: return places;
            }
        }

        long digestOn(long before) {
            long h = before;
            for (int what = 0; what <= 4; what++) h = 31 * h + tell(what);
            for (int k = 0; k < parentCount && k < MOST_PARENTS; k++) h = 31 * h + parents[k];
            h = 31 * h + sights;
            int numbers = kind == CHANCE ? places * states : places;
            for (int i = 0; i < numbers; i++) h = 31 * h + get(i);
            return isFirm() ? 31 * h + firmState : h;
        }
    }

    /** The NODES in the order in which they came about. */
    private static final class Chart {
        final Node[] nodes = new Node[MOST_NODES];
        int nodeCount;
        int worldCount = 1;

        Chart() {
            for (int n = 0; n < MOST_NODES; n++) nodes[n] = new Node();
        }

        boolean has(int n) {
            return n >= 0 && n < nodeCount;
        }

        int add(int kind, int states) {
            if (nodeCount >= MOST_NODES) return FULL;
            nodes[nodeCount].begin(kind, states, worldCount);
            if (states > 0) worldCount *= states;
            nodeCount++;
            return nodeCount - 1;
        }

        int countKind(int kind) {
            int found = 0;
            for (int n = 0; n < nodeCount; n++) {
                if (nodes[n].kind == kind) found++;
            }
            return found;
        }

        int countSeeing(int chance) {
            int found = 0;
            for (int n = 0; n < nodeCount; n++) {
                if (nodes[n].sees(chance)) found++;
            }
            return found;
        }

        int countChildren(int choice) {
            int found = 0;
            for (int n = 0; n < nodeCount; n++) {
                if (nodes[n].isChildOf(choice)) found++;
            }
            return found;
        }

        int firstFree() {
            for (int n = 0; n < nodeCount; n++) {
                if (nodes[n].isFree()) return n;
            }
            return NONE;
        }

        /** What the chances of all WORLDS are parts of. */
        long wholeWeight() {
            long whole = 1;
            for (int n = 0; n < nodeCount; n++) {
                if (nodes[n].kind == CHANCE) whole *= WHOLE_WEIGHT;
            }
            return whole;
        }

        int placeIn(Node node, int world) {
            int place = 0;
            int times = 1;
            for (int k = 0; k < node.parentCount && k < MOST_PARENTS; k++) {
                int p = node.parents[k];
                if (!has(p)) continue;
                place += times * nodes[p].stateIn(world);
                times *= nodes[p].states;
            }
            return place;
        }
    }

    /**
     * All WORLDS of the chart, numbered with the first NODE's STATE counting least, and THE BEST PLAN
     * in them. What is supposed changes the SIGHTS here and never those of the chart.
     */
    private static final class Worlds {
        final Chart chart = new Chart();
        final int[] sights = new int[MOST_NODES];
        final int[] known = new int[MOST_NODES];
        /** A WORLD that does not come about, by now or at all, has no weight. */
        final int[] weight = new int[MOST_WORLDS];
        final int[] worth = new int[MOST_WORLDS];
        /** The WORLD that is like this one where something is KNOWN, and in STATE 0 elsewhere. */
        final int[] key = new int[MOST_WORLDS];
        final long[] sum = new long[MOST_WORLDS];
        final int[] keptWeight = new int[MOST_WORLDS];
        final int[] moved = new int[MOST_WORLDS];
        int movedCount;
        int size;
        int handNode;

        void takeChart() {
            handNode = NONE;
            for (int n = 0; n < MOST_NODES; n++) sights[n] = chart.nodes[n].sights;
        }

        void supposeSight(int choice, int chance) {
            if (chart.has(choice)) sights[choice] |= 1 << chance;
        }

        void supposeBlind(int choice, int chance) {
            if (chart.has(choice)) sights[choice] &= ~(1 << chance);
        }

        void supposeAllSights() {
            int chances = 0;
            for (int n = 0; n < chart.nodeCount; n++) {
                if (chart.nodes[n].kind == CHOICE) sights[n] = chances;
                if (chart.nodes[n].kind == CHANCE) chances |= 1 << n;
            }
        }

        void supposeInHand(int chance) {
            if (!chart.has(chance)) return;
            handNode = chance;
            sights[chance] = 0;
            for (int p = 0; p < chance; p++) {
                if (chart.nodes[p].kind == CHANCE && chart.nodes[chance].isChildOf(p)) {
                    sights[chance] |= 1 << p;
                }
            }
        }

        boolean isFree(int n) {
            return n == handNode || chart.nodes[n].isFree();
        }

        void layOut() {
            layKnown();
            layWeights();
            layWorths();
        }

        void layKnown() {
            int ahead = 0;
            for (int n = 0; n < chart.nodeCount; n++) {
                known[n] = 0;
                if (n != handNode && chart.nodes[n].kind != CHOICE) continue;
                known[n] = ahead | sights[n];
                ahead = known[n] | 1 << n;
            }
        }

        void layWeights() {
            size = 1;
            weight[0] = 1;
            for (int n = 0; n < chart.nodeCount; n++) {
                Node node = chart.nodes[n];
                if (node.states > 0 && size * node.states <= MOST_WORLDS) spreadWeights(n, node);
            }
        }

        /** STATE 0 comes last, as it stands where the weights are that all STATES begin with. */
        void spreadWeights(int n, Node node) {
            for (int w = 0; w < size; w++) {
                int place = chart.placeIn(node, w);
                for (int s = node.states - 1; s >= 0; s--) {
                    weight[s * size + w] = weight[w] * weightOfState(n, node, place, s);
                }
            }
            size *= node.states;
        }

        /** IN HAND each STATE has the whole weight: so all sums stay parts of chart.wholeWeight(). */
        int weightOfState(int n, Node node, int place, int state) {
            if (n == handNode) return WHOLE_WEIGHT;
            if (node.kind == CHANCE) return node.get(place * node.states + state);
            return node.firmState == NONE || node.firmState == state ? 1 : 0;
        }

        void layWorths() {
            Arrays.fill(worth, 0);
            for (int n = 0; n < chart.nodeCount; n++) {
                Node node = chart.nodes[n];
                if (node.kind != WORTH) continue;
                for (int w = 0; w < size; w++) worth[w] += node.get(chart.placeIn(node, w));
            }
        }

        void layKeys(int nodesKept) {
            int done = 1;
            key[0] = 0;
            for (int n = 0; n < chart.nodeCount; n++) {
                int states = chart.nodes[n].states;
                if (states < 1 || done * states > MOST_WORLDS) continue;
                int step = (nodesKept >> n & 1) != 0 ? done : 0;
                for (int s = 1; s < states; s++) {
                    for (int w = 0; w < done; w++) key[s * done + w] = key[w] + s * step;
                }
                done *= states;
            }
        }

        /** THE BEST, as a part of chart.wholeWeight(). */
        long greatest() {
            layOut();
            settleBehind(-1);
            long total = 0;
            for (int w = 0; w < size; w++) total += (long) weight[w] * worth[w];
            return total;
        }

        /** Leaves weight only to the WORLDS that come about by THE BEST PLAN. */
        void settle() {
            layOut();
            settleBehind(-1);
        }

        void settleBehind(int first) {
            for (int n = chart.nodeCount - 1; n > first; n--) {
                if (!isFree(n)) continue;
                sumUp(n);
                dropOthers(chart.nodes[n]);
            }
        }

        void dropOthers(Node node) {
            for (int w = 0; w < size; w++) {
                if (weight[w] == 0) continue;
                int state = node.stateIn(w);
                if (state != greatestState(node, key[w] - state * node.stride)) weight[w] = 0;
            }
        }

        void sumUp(int choice) {
            layKeys(known[choice] | 1 << choice);
            Arrays.fill(sum, 0L);
            for (int w = 0; w < size; w++) {
                if (weight[w] != 0) sum[key[w]] += (long) weight[w] * worth[w];
            }
        }

        /** Of as good ones the least; also where nothing comes about, as all sums are 0 there. */
        int greatestState(Node node, int keyInState0) {
            int last = keyInState0 + (node.states - 1) * node.stride;
            if (keyInState0 < 0 || last >= MOST_WORLDS) return 0;
            int found = 0;
            for (int s = 1; s < node.states; s++) {
                if (sum[keyInState0 + s * node.stride] > sum[keyInState0 + found * node.stride]) found = s;
            }
            return found;
        }

        /** What THE BEST PLAN does at a CHOICE that is not FIRM. */
        int decide(int choice, int keyInState0) {
            if (!chart.has(choice)) return 0;
            settleBehind(choice);
            sumUp(choice);
            return greatestState(chart.nodes[choice], keyInState0);
        }

        /** NONE, if a place for something KNOWN has a STATE that there is not. */
        int keyOfRow(int choice, int[] row) {
            if (!chart.has(choice)) return NONE;
            int found = 0;
            for (int n = 0; n < choice && n < row.length; n++) {
                if ((known[choice] >> n & 1) == 0) continue;
                if (!chart.nodes[n].hasState(row[n])) return NONE;
                found += row[n] * chart.nodes[n].stride;
            }
            return found;
        }

        /** FIRM ones ahead are in their STATES, since they can't be in another; SIGHTS are in 0. */
        int keyOfFirst(int first) {
            int found = 0;
            for (int n = 0; n < first && n < chart.nodeCount; n++) {
                Node node = chart.nodes[n];
                if (node.isFirm()) found += node.firmState * node.stride;
            }
            return found;
        }

        /** The last number of a place, going by steps of 1 or -1, with which the PLAN begins as now. */
        int farthest(int first, Node node, int place, int step) {
            int keyThere = keyOfFirst(first);
            keepWorldsOf(first, keyThere);
            listMoved(node, place);
            if (movedCount == 0) return step * MOST_WORTH;
            int begin = decideAgain(first, keyThere);
            int v = node.get(place);
            for (int i = 0; i < 2 * MOST_WORTH && v != step * MOST_WORTH; i++) {
                for (int k = 0; k < movedCount; k++) worth[moved[k]] += step;
                if (decideAgain(first, keyThere) != begin) break;
                v += step;
            }
            return v;
        }

        void keepWorldsOf(int first, int keyThere) {
            layKeys(chart.has(first) ? known[first] : 0);
            for (int w = 0; w < size; w++) keptWeight[w] = key[w] == keyThere ? weight[w] : 0;
        }

        /** WORLDS that the place is the worth of, among those that were kept. */
        void listMoved(Node node, int place) {
            movedCount = 0;
            for (int w = 0; w < size; w++) {
                if (keptWeight[w] == 0 || chart.placeIn(node, w) != place) continue;
                moved[movedCount] = w;
                movedCount++;
            }
        }

        int decideAgain(int first, int keyThere) {
            System.arraycopy(keptWeight, 0, weight, 0, MOST_WORLDS);
            return decide(first, keyThere);
        }

        long weightOf(Node node, int state) {
            long found = 0;
            for (int w = 0; w < size; w++) {
                if (node.stateIn(w) == state) found += weight[w];
            }
            return found;
        }

        int outermostWorth(boolean most) {
            int found = 0;
            boolean any = false;
            for (int w = 0; w < size; w++) {
                if (weight[w] == 0) continue;
                if (!any || (most ? worth[w] > found : worth[w] < found)) found = worth[w];
                any = true;
            }
            return found;
        }
    }

    /**
     * FORGETTING PLANS. A SLOT is a CHOICE with one way in which its own SIGHTS can be; a PLAN gives
     * each SLOT a STATE. Both what a PLAN gives and what a WORLD needs are bits, 3 to a SLOT.
     */
    private static final class Forgetting {
        final int[] slotStates = new int[MOST_SLOTS];
        final int[] need = new int[MOST_WORLDS];
        int slotCount;
        int planCount;

        /** All of them, or more than MOST_PLANS if there are more. */
        int countPlans(Chart chart) {
            slotCount = 0;
            planCount = 1;
            for (int n = 0; n < chart.nodeCount && planCount <= MOST_PLANS; n++) {
                if (chart.nodes[n].isFree()) addSlots(chart, chart.nodes[n]);
            }
            return planCount;
        }

        void addSlots(Chart chart, Node choice) {
            int ways = sightWays(chart, choice);
            for (int k = 0; k < ways && planCount <= MOST_PLANS; k++) {
                planCount *= choice.states;
                if (slotCount < MOST_SLOTS) slotStates[slotCount] = choice.states;
                slotCount++;
            }
        }

        int sightWays(Chart chart, Node choice) {
            int ways = 1;
            for (int n = 0; n < chart.nodeCount; n++) {
                if (choice.sees(n)) ways *= chart.nodes[n].states;
            }
            return ways;
        }

        int wayIn(Chart chart, Node choice, int world) {
            int way = 0;
            int times = 1;
            for (int n = 0; n < chart.nodeCount; n++) {
                if (!choice.sees(n)) continue;
                way += times * chart.nodes[n].stateIn(world);
                times *= chart.nodes[n].states;
            }
            return way;
        }

        /** THE BEST of them, as a part of wholeWeight(); their number must have been counted. */
        long greatest(Worlds worlds) {
            worlds.takeChart();
            worlds.layOut();
            layNeeds(worlds);
            long found = meanOf(worlds, planBits(0));
            for (int p = 1; p < planCount; p++) found = Math.max(found, meanOf(worlds, planBits(p)));
            return found;
        }

        void layNeeds(Worlds worlds) {
            Chart chart = worlds.chart;
            Arrays.fill(need, 0);
            int slot = 0;
            for (int n = 0; n < chart.nodeCount; n++) {
                Node node = chart.nodes[n];
                if (!node.isFree()) continue;
                for (int w = 0; w < worlds.size; w++) {
                    need[w] |= bit(slot + wayIn(chart, node, w), node.stateIn(w));
                }
                slot += sightWays(chart, node);
            }
        }

        static int bit(int slot, int state) {
            return 1 << (MOST_STATES * slot + state);
        }

        int planBits(int plan) {
            int bits = 0;
            int rest = plan;
            for (int k = 0; k < slotCount && k < MOST_SLOTS; k++) {
                int states = slotStates[k];
                if (states < 1) continue;
                bits |= bit(k, rest % states);
                rest /= states;
            }
            return bits;
        }

        long meanOf(Worlds worlds, int bits) {
            long total = 0;
            for (int w = 0; w < worlds.size; w++) {
                if ((need[w] & ~bits) == 0) total += (long) worlds.weight[w] * worlds.worth[w];
            }
            return total;
        }
    }
}
