import java.util.ArrayList;
import java.util.HashMap;
import java.util.List;
import java.util.Map;
import java.util.TreeSet;

/**
 * The document again, written to be read beside it and not to be fast: plans are found from the first
 * CHOICE on, by trying everything, where the program goes from the last one back.
 */
final class Model {
    private static final int BAD = -1, FULL = -2, FINDING = -3, STATE = -4, SPENT = -6, NONE = -9;
    private static final int NOTHING = 1, BEYOND = 2, UNLIKE = 3, NOUGHT = 4, SIZE = 5;

    static final class N {
        int kind;
        int states;
        int firm = NONE;
        final List<Integer> parents = new ArrayList<>();
        final TreeSet<Integer> sights = new TreeSet<>();
        int[] table = {};
    }

    final List<N> nodes = new ArrayList<>();
    final int[][] rows = new int[4][];
    final int[] found = new int[6];
    int finding;
    int asked;
    long upper;
    long lower = 1;

    // ---- refusals

    private boolean no(int n) {
        return n < 0 || n >= nodes.size();
    }

    private int find(int f) {
        finding = f;
        found[f]++;
        return FINDING;
    }

    private int ask(int v) {
        asked = v;
        return 1;
    }

    private int refuseSight(int choice, int chance) {
        if (no(choice) || no(chance) || chance >= choice) return BAD;
        if (nodes.get(choice).kind != 2 || nodes.get(chance).kind != 1) return find(UNLIKE);
        return nodes.get(choice).sights.contains(chance) ? STATE : 0;
    }

    private int refuseBlind(int choice, int chance) {
        if (no(choice) || no(chance)) return BAD;
        if (nodes.get(choice).kind != 2) return find(UNLIKE);
        return nodes.get(choice).sights.contains(chance) ? 0 : STATE;
    }

    // ---- 1 the chart

    int worldCount() {
        int product = 1;
        for (N n : nodes) if (n.kind != 0) product *= n.states;
        return product;
    }

    private int placesOf(N n) {
        int product = 1;
        for (int p : n.parents) product *= nodes.get(p).states;
        return n.kind == 2 ? 0 : product;
    }

    private void firstTable(N n) {
        n.table = new int[n.kind == 1 ? placesOf(n) * n.states : placesOf(n)];
        if (n.kind == 1) for (int r = 0; r < placesOf(n); r++) n.table[r * n.states] = 12;
    }

    int node(int kind, int states) {
        if (kind < 0 || kind > 2 || kind > 0 && states != 2 && states != 3) return BAD;
        if (nodes.size() == 10) return FULL;
        if (kind > 0 && worldCount() * states > 243) return SPENT;
        N n = new N();
        n.kind = kind;
        n.states = kind == 0 ? 0 : states;
        firstTable(n);
        nodes.add(n);
        return nodes.size() - 1;
    }

    int parent(int node, int p) {
        if (no(node) || no(p) || p >= node || nodes.get(p).kind == 0 || nodes.get(node).parents.contains(p)) return BAD;
        N n = nodes.get(node);
        if (n.kind == 2) return find(UNLIKE);
        if (n.parents.size() == (n.kind == 0 ? 3 : 2)) return FULL;
        n.parents.add(p);
        firstTable(n);
        return n.parents.size();
    }

    int sight(int choice, int chance) {
        int refused = refuseSight(choice, chance);
        if (refused != 0) return refused;
        nodes.get(choice).sights.add(chance);
        return nodes.get(choice).sights.size();
    }

    int blind(int choice, int chance) {
        int refused = refuseBlind(choice, chance);
        if (refused != 0) return refused;
        nodes.get(choice).sights.remove(chance);
        return nodes.get(choice).sights.size();
    }

    int weigh(int chance, int row, int w0, int w1) {
        if (no(chance)) return BAD;
        N n = nodes.get(chance);
        long both = (long) w0 + w1;
        if (w0 < 0 || w1 < 0 || both > 12) return BAD;
        if (n.kind == 1 && n.states == 2 && both != 12) return BAD;
        if (n.kind != 1) return find(UNLIKE);
        if (row < 0 || row >= placesOf(n)) return find(BEYOND);
        n.table[row * n.states] = w0;
        n.table[row * n.states + 1] = w1;
        if (n.states == 3) n.table[row * 3 + 2] = (int) (12 - both);
        return 1;
    }

    int weight(int chance, int row, int state) {
        if (no(chance)) return BAD;
        N n = nodes.get(chance);
        if (n.kind != 1) return find(UNLIKE);
        if (row < 0 || row >= placesOf(n) || state < 0 || state >= n.states) return find(BEYOND);
        return n.table[row * n.states + state];
    }

    int worth(int node, int place, int v) {
        if (no(node) || v < -100 || v > 100) return BAD;
        N n = nodes.get(node);
        if (n.kind != 0) return find(UNLIKE);
        if (place < 0 || place >= placesOf(n)) return find(BEYOND);
        int was = n.table[place];
        n.table[place] = v;
        return ask(was);
    }

    int firm(int choice, int state) {
        if (no(choice)) return BAD;
        N n = nodes.get(choice);
        if (n.kind != 2) return find(UNLIKE);
        if (state != NONE && (state < 0 || state >= n.states)) return find(BEYOND);
        int was = n.firm;
        n.firm = state;
        return was;
    }

    int told(int node, int what) {
        if (no(node) || what < 0 || what > 4) return BAD;
        N n = nodes.get(node);
        int[] all = {n.firm != NONE ? 3 : n.kind, n.states, n.parents.size(), n.sights.size(), placesOf(n)};
        return all[what];
    }

    int mark(int node, int kind) {
        if (no(node) || kind < 1 || kind > 3) return BAD;
        N n = nodes.get(node);
        if (kind == 3 ? n.firm == NONE : n.kind != kind) return find(UNLIKE);
        if (kind == 3) return n.firm;
        int times = 0;
        for (N m : nodes) if (kind == 1 ? m.sights.contains(node) : m.parents.contains(node)) times++;
        return times;
    }

    int mean(int node) {
        if (no(node)) return BAD;
        N n = nodes.get(node);
        if (n.kind != 0) return find(UNLIKE);
        int sum = 0;
        for (int v : n.table) sum += v;
        return ask(sum / n.table.length);
    }

    int meanSights() {
        int sum = 0;
        for (N n : nodes) sum += n.sights.size();
        return count(2) == 0 ? find(NOUGHT) : sum / count(2);
    }

    // ---- 2 plans: STATES of NODES, -1 where there is none yet

    private int[] nothingYet() {
        int[] st = new int[nodes.size()];
        java.util.Arrays.fill(st, -1);
        return st;
    }

    private int place(N n, int[] st) {
        int place = 0;
        for (int k = n.parents.size() - 1; k >= 0; k--) {
            place = place * nodes.get(n.parents.get(k)).states + st[n.parents.get(k)];
        }
        return place;
    }

    private long wholeOf() {
        long whole = 1;
        for (N n : nodes) if (n.kind == 1) whole *= 12;
        return whole;
    }

    /** The weight of what is open in st, each time multiplied with the WORTH (or 1), from NODE i on. */
    private long sumWorlds(int[] st, int i, long weight, long worth, boolean weightAlone) {
        if (weight == 0) return 0;
        if (i == nodes.size()) return weightAlone ? weight : weight * worth;
        N n = nodes.get(i);
        if (n.kind == 0) return sumWorlds(st, i + 1, weight, worth + n.table[place(n, st)], weightAlone);
        if (n.kind == 2) return sumWorlds(st, i + 1, weight, worth, weightAlone);
        int was = st[i];
        long sum = 0;
        for (int s = 0; s < n.states; s++) {
            if (was != -1 && was != s) continue;
            st[i] = s;
            sum += sumWorlds(st, i + 1, weight * n.table[place(n, st) * n.states + s], worth, weightAlone);
        }
        st[i] = was;
        return sum;
    }

    /** THE BEST of what can come behind st, with all CHOICES ahead of NODE i made. */
    private long value(int[] st, int i) {
        int c = i;
        while (c < nodes.size() && nodes.get(c).kind != 2) c++;
        if (c == nodes.size()) return sumWorlds(st, 0, 1, 0, false);
        return see(st, c, new ArrayList<>(nodes.get(c).sights), 0);
    }

    private long see(int[] st, int c, List<Integer> sights, int k) {
        if (k == sights.size()) {
            N n = nodes.get(c);
            return n.firm != NONE ? valueOf(st, c, n.firm) : valueOf(st, c, greatestState(st, c));
        }
        int seen = sights.get(k);
        if (st[seen] != -1) return see(st, c, sights, k + 1);
        long sum = 0;
        for (int s = 0; s < nodes.get(seen).states; s++) {
            st[seen] = s;
            sum += see(st, c, sights, k + 1);
        }
        st[seen] = -1;
        return sum;
    }

    private long valueOf(int[] st, int c, int state) {
        st[c] = state;
        long v = value(st, c + 1);
        st[c] = -1;
        return v;
    }

    private int greatestState(int[] st, int c) {
        int best = 0;
        long most = valueOf(st, c, 0);
        for (int s = 1; s < nodes.get(c).states; s++) {
            long v = valueOf(st, c, s);
            if (v > most) {
                most = v;
                best = s;
            }
        }
        return best;
    }

    private TreeSet<Integer> known(int c) {
        TreeSet<Integer> all = new TreeSet<>(nodes.get(c).sights);
        for (int n = 0; n < c; n++) {
            if (nodes.get(n).kind != 2) continue;
            all.add(n);
            all.addAll(nodes.get(n).sights);
        }
        return all;
    }

    /** What THE BEST PLAN does at a CHOICE where st is KNOWN. */
    private int plan(int c, int[] st) {
        if (nodes.get(c).firm != NONE) return nodes.get(c).firm;
        for (int n = 0; n < c; n++) {
            if (nodes.get(n).kind == 2 && nodes.get(n).firm != NONE && nodes.get(n).firm != st[n]) return 0;
        }
        if (weightAhead(st, c) == 0) return 0;
        return greatestState(st, c);
    }

    /** CHANCES behind a CHOICE do not matter for what is KNOWN there: only those ahead are weighed. */
    private long weightAhead(int[] st, int c) {
        List<N> all = new ArrayList<>(nodes);
        while (nodes.size() > c) nodes.remove(nodes.size() - 1);
        for (int i = 0; i < c; i++) {
            if (nodes.get(i).kind != 0) continue;
            N blank = new N();
            blank.table = new int[27];
            nodes.set(i, blank);
        }
        long sum = sumWorlds(st, 0, 1, 0, true);
        nodes.clear();
        nodes.addAll(all);
        return sum;
    }

    private int[] openBut(int[] world, TreeSet<Integer> kept) {
        int[] st = nothingYet();
        for (int n : kept) st[n] = world[n];
        return st;
    }

    /** All WORLDS that come about by THE BEST PLAN, with their weights. */
    private Map<int[], Long> comingAbout() {
        Map<int[], Long> out = new HashMap<>();
        Map<String, Integer> plans = new HashMap<>();
        for (int w = 0; w < worldCount(); w++) {
            int[] world = nothingYet();
            int rest = w;
            for (int n = 0; n < nodes.size(); n++) {
                if (nodes.get(n).kind == 0) continue;
                world[n] = rest % nodes.get(n).states;
                rest /= nodes.get(n).states;
            }
            long weight = sumWorlds(world, 0, 1, 0, true);
            if (weight != 0 && follows(world, plans)) out.put(world, weight);
        }
        return out;
    }

    private boolean follows(int[] world, Map<String, Integer> plans) {
        for (int c = 0; c < nodes.size(); c++) {
            if (nodes.get(c).kind != 2) continue;
            int[] st = openBut(world, known(c));
            String name = c + java.util.Arrays.toString(st);
            if (!plans.containsKey(name)) plans.put(name, plan(c, st));
            if (plans.get(name) != world[c]) return false;
        }
        return true;
    }

    private long worthOfWorld(int[] world) {
        long sum = 0;
        for (N n : nodes) if (n.kind == 0) sum += n.table[place(n, world)];
        return sum;
    }

    private int tell(long up, long low) {
        long a = Math.abs(up);
        long b = low;
        while (b != 0) {
            long r = a % b;
            a = b;
            b = r;
        }
        upper = up / a;
        lower = low / a;
        return 1;
    }

    private long bestNow() {
        return value(nothingYet(), 0);
    }

    int best() {
        return tell(bestNow(), wholeOf());
    }

    int does(int choice, int row) {
        if (no(choice) || row < 0 || row > 3) return BAD;
        if (nodes.get(choice).kind != 2) return find(UNLIKE);
        if (rows[row] == null) return find(NOTHING);
        if (rows[row].length < choice) return find(SIZE);
        int[] st = nothingYet();
        for (int n : known(choice)) {
            st[n] = rows[row][n];
            if (st[n] < 0 || st[n] >= nodes.get(n).states) return find(BEYOND);
        }
        return plan(choice, st);
    }

    /** null: more than 512 plans. */
    private Long forgettingNow() {
        List<Map<String, Integer>> plans = new ArrayList<>();
        plans.add(new HashMap<>());
        for (int c = 0; c < nodes.size(); c++) {
            if (nodes.get(c).kind != 2) continue;
            TreeSet<String> ways = new TreeSet<>();
            for (int[] world : allWorlds()) ways.add(way(c, world));
            for (String way : ways) {
                List<Map<String, Integer>> more = new ArrayList<>();
                for (Map<String, Integer> plan : plans) {
                    for (int s = 0; s < nodes.get(c).states; s++) {
                        if (nodes.get(c).firm != NONE && nodes.get(c).firm != s) continue;
                        Map<String, Integer> longer = new HashMap<>(plan);
                        longer.put(way, s);
                        more.add(longer);
                    }
                }
                plans = more;
                if (plans.size() > 512) return null;
            }
        }
        Long most = null;
        for (Map<String, Integer> plan : plans) {
            long mean = meanForgetting(plan);
            if (most == null || mean > most) most = mean;
        }
        return most;
    }

    private List<int[]> allWorlds() {
        List<int[]> all = new ArrayList<>();
        all.add(nothingYet());
        for (int n = 0; n < nodes.size(); n++) {
            if (nodes.get(n).kind == 0) continue;
            List<int[]> more = new ArrayList<>();
            for (int[] world : all) {
                for (int s = 0; s < nodes.get(n).states; s++) {
                    int[] next = world.clone();
                    next[n] = s;
                    more.add(next);
                }
            }
            all = more;
        }
        return all;
    }

    private String way(int c, int[] world) {
        StringBuilder name = new StringBuilder().append(c);
        for (int s : nodes.get(c).sights) name.append(' ').append(world[s]);
        return name.toString();
    }

    private long meanForgetting(Map<String, Integer> plan) {
        long sum = 0;
        for (int[] world : allWorlds()) {
            boolean comes = true;
            for (int c = 0; c < nodes.size(); c++) {
                if (nodes.get(c).kind == 2 && plan.get(way(c, world)) != world[c]) comes = false;
            }
            if (comes) sum += sumWorlds(world, 0, 1, 0, false);
        }
        return sum;
    }

    int bestForgetting() {
        Long most = forgettingNow();
        return most == null ? SPENT : tell(most, wholeOf());
    }

    int lost() {
        Long most = forgettingNow();
        return most == null ? SPENT : tell(bestNow() - most, wholeOf());
    }

    int worthOf(int choice, int chance) {
        int refused = refuseSight(choice, chance);
        if (refused != 0) return refused;
        long now = bestNow();
        nodes.get(choice).sights.add(chance);
        long then = bestNow();
        nodes.get(choice).sights.remove(chance);
        return tell(then - now, wholeOf());
    }

    int knowing() {
        long now = bestNow();
        List<TreeSet<Integer>> kept = new ArrayList<>();
        for (int c = 0; c < nodes.size(); c++) {
            kept.add(new TreeSet<>(nodes.get(c).sights));
            for (int n = 0; n < c; n++) {
                if (nodes.get(c).kind == 2 && nodes.get(n).kind == 1) nodes.get(c).sights.add(n);
            }
        }
        long then = bestNow();
        for (int c = 0; c < nodes.size(); c++) nodes.get(c).sights.retainAll(kept.get(c));
        return tell(then - now, wholeOf());
    }

    int inHand(int chance) {
        if (no(chance)) return BAD;
        N n = nodes.get(chance);
        if (n.kind != 1) return find(UNLIKE);
        long now = bestNow();
        long whole = wholeOf();
        N choice = new N();
        choice.kind = 2;
        choice.states = n.states;
        for (int p : n.parents) if (nodes.get(p).kind == 1) choice.sights.add(p);
        nodes.set(chance, choice);
        long then = bestNow();
        long wholeThen = wholeOf();
        nodes.set(chance, n);
        return tell(then * whole - now * wholeThen, whole * wholeThen);
    }

    int needless(int choice, int chance) {
        int refused = refuseBlind(choice, chance);
        if (refused != 0) return refused;
        long now = bestNow();
        nodes.get(choice).sights.remove(chance);
        long then = bestNow();
        nodes.get(choice).sights.add(chance);
        return then == now ? 1 : 0;
    }

    int span(int node, int place, boolean high) {
        if (no(node)) return BAD;
        N n = nodes.get(node);
        if (n.kind != 0) return find(UNLIKE);
        if (place < 0 || place >= n.table.length) return find(BEYOND);
        int first = 0;
        while (first < nodes.size() && (nodes.get(first).kind != 2 || nodes.get(first).firm != NONE)) first++;
        if (first == nodes.size()) return STATE;
        int[] st = nothingYet();
        for (int k : known(first)) st[k] = nodes.get(k).kind == 2 ? nodes.get(k).firm : 0;
        int was = n.table[place];
        int begin = plan(first, st);
        int v = was;
        while (v >= -100 && v <= 100) {
            n.table[place] = v;
            if (plan(first, st) != begin) break;
            v += high ? 1 : -1;
        }
        n.table[place] = was;
        return ask(high ? v - 1 : v + 1);
    }

    int chance(int node, int state) {
        if (no(node)) return BAD;
        if (nodes.get(node).kind == 0) return find(UNLIKE);
        if (state < 0 || state >= nodes.get(node).states) return find(BEYOND);
        long sum = 0;
        for (Map.Entry<int[], Long> w : comingAbout().entrySet()) if (w.getKey()[node] == state) sum += w.getValue();
        return tell(sum, wholeOf());
    }

    int end(boolean most) {
        Long found = null;
        for (int[] w : comingAbout().keySet()) {
            long v = worthOfWorld(w);
            if (found == null || (most ? v > found : v < found)) found = v;
        }
        return ask((int) (long) found);
    }

    // ---- 3 rows, what is told

    private boolean noRow(int r) {
        return r < 0 || r > 3;
    }

    int row(int r, int n) {
        if (noRow(r) || n > 27) return BAD;
        if (n < 0) return find(SIZE);
        rows[r] = new int[n];
        return n;
    }

    int lay(int r, int i, int v) {
        if (noRow(r)) return BAD;
        if (rows[r] == null) return find(NOTHING);
        if (i < 0 || i >= rows[r].length) return find(BEYOND);
        int was = rows[r][i];
        rows[r][i] = v;
        return ask(was);
    }

    int tear(int r) {
        if (noRow(r)) return BAD;
        if (rows[r] == null) return find(NOTHING);
        rows[r] = null;
        return 1;
    }

    int copy(int r, int i, int to, int j, int n) {
        if (noRow(r) || noRow(to)) return BAD;
        if (n < 0) return find(SIZE);
        if (rows[r] == null || rows[to] == null) return find(NOTHING);
        if (i < 0 || j < 0 || (long) i + n > rows[r].length || (long) j + n > rows[to].length) return find(BEYOND);
        int[] taken = rows[r].clone();
        for (int k = 0; k < n; k++) rows[to][j + k] = taken[i + k];
        return 1;
    }

    int fill(int node, int r) {
        if (no(node) || noRow(r)) return BAD;
        N n = nodes.get(node);
        if (n.kind != 0) return find(UNLIKE);
        if (rows[r] == null) return find(NOTHING);
        int i = 0;
        for (; i < n.table.length && i < rows[r].length; i++) n.table[i] = Math.max(-100, Math.min(100, rows[r][i]));
        return i;
    }

    int count(int what) {
        if (what < 0 || what > 4) return BAD;
        if (what == 0) return nodes.size();
        if (what == 4) return worldCount();
        int times = 0;
        for (N n : nodes) if (n.kind == what % 3) times++;
        return times;
    }

    int findings(int f) {
        return f < 1 || f > 5 ? BAD : found[f];
    }

    long digest() {
        List<Integer> all = new ArrayList<>();
        for (int i = 0; i < nodes.size(); i++) {
            N n = nodes.get(i);
            for (int what = 0; what < 5; what++) all.add(told(i, what));
            all.addAll(n.parents);
            int bits = 0;
            for (int s : n.sights) bits += 1 << s;
            all.add(bits);
            for (int v : n.table) all.add(v);
            if (n.firm != NONE) all.add(n.firm);
        }
        for (int[] row : rows) {
            all.add(row == null ? -1 : row.length);
            if (row != null) for (int v : row) all.add(v);
        }
        long h = 17;
        for (int v : all) h = 31 * h + v;
        return h;
    }
}
