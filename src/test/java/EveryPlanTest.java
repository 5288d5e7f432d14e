import java.util.ArrayList;
import java.util.Arrays;
import java.util.HashMap;
import java.util.List;
import java.util.Map;
import java.util.Random;

/**
 * The terms taken by their words on small charts: every PLAN there is gets its MEAN over all WORLDS, where the
 * program and the Model go from CHOICE to CHOICE. What is worth more is held against a chart that is built so.
 */
public final class EveryPlanTest {
    private static final int CHARTS = 400, MOST_WORLDS = 48, MOST_PLANS = 1200, NONE = -9;
    private static final Due DUE = new Due("EveryPlanTest");

    private final Random dice;
    private final int[] kind;
    private final int[] states;
    private final int[] firm;
    private final int[] sights;
    private final int[][] parents;
    private final int[][] table;
    private final List<int[]> worlds = new ArrayList<>();
    private long whole = 1;

    private EveryPlanTest(Random dice) {
        this.dice = dice;
        int[][] orders = {{1, 2, 1, 2, 0, 0}, {2, 1, 2, 1, 0}, {1, 1, 2, 0, 2, 0}, {2, 1, 1, 2, 2, 0}, {1, 2, 0, 2, 1, 0, 0}};
        kind = orders[dice.nextInt(orders.length)];
        states = new int[kind.length];
        firm = new int[kind.length];
        sights = new int[kind.length];
        parents = new int[kind.length][];
        table = new int[kind.length][];
        for (int n = 0; n < kind.length; n++) makeNode(n);
        makeWorlds(new int[kind.length], 0);
    }

    public static void main(String[] args) {
        Random dice = new Random(13);
        int looked = 0;
        for (int tries = 0; tries < 50 * CHARTS && looked < CHARTS && !DUE.anyWrong(); tries++) {
            EveryPlanTest test = new EveryPlanTest(dice);
            if (test.worlds.size() > MOST_WORLDS || test.everyPlan(false) == null) continue;
            test.lookAtAll();
            looked++;
        }
        DUE.is("charts", looked, CHARTS);
        DUE.end();
    }

    // ---- the chart

    private void makeNode(int n) {
        states[n] = kind[n] == 0 ? 0 : dice.nextInt(4) == 0 ? 3 : 2;
        firm[n] = kind[n] == 2 && dice.nextInt(6) == 0 ? dice.nextInt(states[n]) : NONE;
        List<Integer> found = new ArrayList<>();
        int places = 1;
        for (int p = 0; p < n; p++) {
            if (kind[n] == 2 && kind[p] == 1 && dice.nextInt(5) < 2) sights[n] |= 1 << p;
            if (kind[n] == 2 || kind[p] == 0 || found.size() == (kind[n] == 0 ? 3 : 2) || dice.nextInt(3) == 0) continue;
            found.add(dice.nextInt(found.size() + 1), p);
            places *= states[p];
        }
        parents[n] = found.stream().mapToInt(p -> p).toArray();
        table[n] = new int[kind[n] == 2 ? 0 : kind[n] == 1 ? places * states[n] : places];
        if (kind[n] == 1) whole *= 12;
        int wide = dice.nextInt(3) == 0 ? 2 : 100;
        for (int i = 0; i < places && kind[n] == 0; i++) table[n][i] = dice.nextInt(2 * wide + 1) - wide;
        for (int r = 0; r < places && kind[n] == 1; r++) makeWeights(n, r);
    }

    private void makeWeights(int n, int r) {
        int w0 = dice.nextInt(4) == 0 ? 12 * dice.nextInt(2) : dice.nextInt(13);
        int w1 = states[n] == 2 ? 12 - w0 : dice.nextInt(13 - w0);
        table[n][r * states[n]] = w0;
        table[n][r * states[n] + 1] = w1;
        if (states[n] == 3) table[n][r * 3 + 2] = 12 - w0 - w1;
    }

    private void makeWorlds(int[] world, int n) {
        if (n == kind.length) {
            worlds.add(world.clone());
            return;
        }
        for (int s = 0; s < Math.max(1, states[n]); s++) {
            world[n] = s;
            makeWorlds(world, n + 1);
        }
    }

    /** The chart as an object, if NODE hand is a CHOICE instead; hand NONE: as it is. */
    private SightChart built(int hand) {
        SightChart x = new SightChart();
        for (int n = 0; n < kind.length; n++) {
            x.node(n == hand ? 2 : kind[n], states[n]);
            for (int p : parents[n]) {
                if (n != hand) x.parent(n, p);
                else if (kind[p] == 1) x.sight(n, p);
            }
            for (int p = 0; p < n; p++) if ((sights[n] >> p & 1) != 0 && p != hand) x.sight(n, p);
            if (firm[n] != NONE) x.firm(n, firm[n]);
            for (int i = 0; i < table[n].length && kind[n] == 0; i++) x.worth(n, i, table[n][i]);
            for (int i = 0; i < table[n].length && kind[n] == 1 && n != hand; i += states[n]) {
                x.weigh(n, i / states[n], table[n][i], table[n][i + 1]);
            }
        }
        return x;
    }

    private int place(int n, int[] world) {
        int place = 0;
        int times = 1;
        for (int p : parents[n]) {
            place += times * world[p];
            times *= states[p];
        }
        return place;
    }

    private long weight(int[] world) {
        long product = 1;
        for (int n = 0; n < kind.length; n++) {
            if (kind[n] == 1) product *= table[n][place(n, world) * states[n] + world[n]];
        }
        return product;
    }

    private long worth(int[] world) {
        long sum = 0;
        for (int n = 0; n < kind.length; n++) if (kind[n] == 0) sum += table[n][place(n, world)];
        return sum;
    }

    // ---- plans: what is KNOWN at a CHOICE, as a text, and the STATE there

    private String known(int choice, int[] world, boolean forgetting) {
        StringBuilder text = new StringBuilder().append(choice).append(':');
        int seen = sights[choice];
        for (int n = 0; n < choice && !forgetting; n++) if (kind[n] == 2) seen |= 1 << n | sights[n];
        for (int n = 0; n < choice; n++) text.append((seen >> n & 1) != 0 ? (char) ('0' + world[n]) : '-');
        return text.toString();
    }

    /** All of them; null if they are too many to look at. */
    private List<Map<String, Integer>> everyPlan(boolean forgetting) {
        List<Map<String, Integer>> plans = new ArrayList<>();
        plans.add(new HashMap<>());
        for (int[] world : worlds) {
            for (int c = 0; c < kind.length; c++) {
                if (kind[c] != 2) continue;
                String there = known(c, world, forgetting);
                if (plans.get(0).containsKey(there)) continue;
                plans = longer(plans, there, c);
                if (plans.size() > MOST_PLANS) return null;
            }
        }
        return plans;
    }

    private List<Map<String, Integer>> longer(List<Map<String, Integer>> plans, String there, int c) {
        List<Map<String, Integer>> out = new ArrayList<>();
        for (Map<String, Integer> plan : plans) {
            for (int s = 0; s < states[c]; s++) {
                if (firm[c] != NONE && firm[c] != s) continue;
                Map<String, Integer> next = new HashMap<>(plan);
                next.put(there, s);
                out.add(next);
            }
        }
        return out;
    }

    /** Whether a WORLD goes by a PLAN, at CHOICES from one on. */
    private boolean goesBy(Map<String, Integer> plan, int[] world, int from, boolean forgetting) {
        for (int c = from; c < kind.length; c++) {
            if (kind[c] == 2 && plan.get(known(c, world, forgetting)) != world[c]) return false;
        }
        return true;
    }

    private long mean(Map<String, Integer> plan, boolean forgetting) {
        long sum = 0;
        for (int[] world : worlds) if (goesBy(plan, world, 0, forgetting)) sum += weight(world) * worth(world);
        return sum;
    }

    private long greatest(List<Map<String, Integer>> plans, boolean forgetting) {
        long most = Long.MIN_VALUE;
        for (Map<String, Integer> plan : plans) most = Math.max(most, mean(plan, forgetting));
        return most;
    }

    /** The least STATE of those that are best where this is KNOWN, over all that may be done behind. */
    private int bestThere(List<Map<String, Integer>> plans, int c, String there) {
        if (firm[c] != NONE) return firm[c];
        List<int[]> alike = new ArrayList<>();
        for (int[] w : worlds) if (known(c, w, false).equals(there) && firmAhead(c, w) && weight(w) > 0) alike.add(w);
        long[] most = new long[states[c]];
        Arrays.fill(most, Long.MIN_VALUE);
        for (Map<String, Integer> plan : plans) {
            long[] sum = new long[states[c]];
            for (int[] w : alike) if (goesBy(plan, w, c + 1, false)) sum[w[c]] += weight(w) * worth(w);
            for (int s = 0; s < sum.length; s++) most[s] = Math.max(most[s], sum[s]);
        }
        int best = 0;
        for (int s = 1; s < most.length; s++) if (most[s] > most[best]) best = s;
        return best;
    }

    private boolean firmAhead(int c, int[] world) {
        for (int n = 0; n < c; n++) if (firm[n] != NONE && firm[n] != world[n]) return false;
        return true;
    }

    // ---- what is looked at

    private void lookAtAll() {
        SightChart x = built(NONE);
        List<Map<String, Integer>> plans = everyPlan(false);
        long best = greatest(plans, false);
        fraction("best()", x, x.best(), best, whole);
        Map<String, Integer> plan = planOf(x, plans);
        DUE.is("the MEAN of THE BEST PLAN", mean(plan, false), best);
        outcomes(x, plan);
        forgetting(x, best);
        sightsMoreAndLess(x);
        inHand(x);
        spans();
    }

    private void fraction(String call, SightChart x, int got, long upper, long lower) {
        DUE.is(call, got, 1);
        DUE.is(call + ", as a fraction", x.upper() * lower, upper * x.lower());
        DUE.is(call + ", lower() above 0", x.lower() > 0 ? 1 : 0, 1);
    }

    private static int does(SightChart x, int choice, int[] world) {
        x.row(3, choice);
        for (int n = 0; n < choice; n++) x.lay(3, n, world[n]);
        return x.does(choice, 3);
    }

    private Map<String, Integer> planOf(SightChart x, List<Map<String, Integer>> plans) {
        Map<String, Integer> plan = new HashMap<>();
        for (int[] world : worlds) {
            for (int c = 0; c < kind.length; c++) {
                String there = known(c, world, false);
                if (kind[c] != 2 || plan.containsKey(there)) continue;
                plan.put(there, does(x, c, world));
                DUE.is("does() at " + there, plan.get(there), bestThere(plans, c, there));
            }
        }
        return plan;
    }

    private void outcomes(SightChart x, Map<String, Integer> plan) {
        long[][] weights = new long[kind.length][3];
        long least = Long.MAX_VALUE;
        long most = Long.MIN_VALUE;
        for (int[] world : worlds) {
            if (weight(world) == 0 || !goesBy(plan, world, 0, false)) continue;
            for (int n = 0; n < kind.length; n++) weights[n][world[n]] += weight(world);
            least = Math.min(least, worth(world));
            most = Math.max(most, worth(world));
        }
        for (int n = 0; n < kind.length; n++) {
            for (int s = 0; s < states[n]; s++) fraction("chance()", x, x.chance(n, s), weights[n][s], whole);
        }
        DUE.asks("end(false)", x, x.end(false), (int) least);
        DUE.asks("end(true)", x, x.end(true), (int) most);
    }

    private void forgetting(SightChart x, long best) {
        List<Map<String, Integer>> plans = everyPlan(true);
        if (plans == null || plans.size() > 512) {
            DUE.is("bestForgetting()", x.bestForgetting(), SightChart.SPENT);
            DUE.is("lost()", x.lost(), SightChart.SPENT);
            return;
        }
        long greatest = greatest(plans, true);
        fraction("bestForgetting()", x, x.bestForgetting(), greatest, whole);
        fraction("lost()", x, x.lost(), best - greatest, whole);
    }

    /** THE BEST of a chart less that of another one, as asked on the one. */
    private void difference(String call, SightChart x, int got, SightChart then, SightChart now) {
        then.best();
        now.best();
        fraction(call, x, got, then.upper() * now.lower() - now.upper() * then.lower(), then.lower() * now.lower());
    }

    private void sightsMoreAndLess(SightChart x) {
        SightChart seesAll = built(NONE);
        for (int c = 0; c < kind.length; c++) {
            for (int n = 0; n < c; n++) {
                if (kind[c] != 2 || kind[n] != 1) continue;
                seesAll.sight(c, n);
                SightChart other = built(NONE);
                if ((sights[c] >> n & 1) == 0) {
                    other.sight(c, n);
                    difference("worthOf()", x, x.worthOf(c, n), other, built(NONE));
                } else {
                    other.blind(c, n);
                    int needless = x.needless(c, n);
                    x.best();
                    other.best();
                    boolean same = x.upper() == other.upper() && x.lower() == other.lower();
                    DUE.is("needless()", needless, same ? 1 : 0);
                }
            }
        }
        difference("knowing()", x, x.knowing(), seesAll, built(NONE));
    }

    private void inHand(SightChart x) {
        for (int n = 0; n < kind.length; n++) {
            if (kind[n] == 1) difference("inHand(" + n + ")", x, x.inHand(n), built(n), built(NONE));
        }
    }

    /** One place of each WORTH, by what THE BEST PLAN does with each number in turn. */
    private void spans() {
        int first = 0;
        while (first < kind.length && (kind[first] != 2 || firm[first] != NONE)) first++;
        for (int n = 0; n < kind.length; n++) {
            if (kind[n] != 0) continue;
            int place = dice.nextInt(table[n].length);
            if (first == kind.length) {
                DUE.is("span() without a free CHOICE", built(NONE).span(n, place, true), SightChart.STATE);
                continue;
            }
            int least = farthest(first, n, place, -1);
            int most = farthest(first, n, place, 1);
            SightChart x = built(NONE);
            DUE.asks("span(" + n + ", " + place + ", false)", x, x.span(n, place, false), least);
            DUE.asks("span(" + n + ", " + place + ", true)", x, x.span(n, place, true), most);
        }
    }

    private int farthest(int first, int n, int place, int step) {
        int[] there = new int[first];
        for (int k = 0; k < first; k++) there[k] = firm[k] == NONE ? 0 : firm[k];
        int begin = does(built(NONE), first, there);
        int v = table[n][place];
        while (v != 100 * step) {
            SightChart x = built(NONE);
            x.worth(n, place, v + step);
            if (does(x, first, there) != begin) break;
            v += step;
        }
        return v;
    }
}
