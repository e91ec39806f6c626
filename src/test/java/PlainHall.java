import java.math.BigInteger;
import java.util.ArrayList;
import java.util.HashMap;
import java.util.List;
import java.util.Map;

/**
 * The document word by word, slow and without any of the program's ways (no masks, no packed flights,
 * no sums kept): what FeatherHall answers is held against it on many runs of calls.
 */
final class PlainHall {
    static final int NONE = -1, UNKNOWN = -2, OUTSIDE = -3, NOT = -4, FULL = -5;

    private final int[] speed = {60, 20, 30, 40};
    private final int[] drag = {30, 5, 20, 15};
    private final int[] meet = {2, 3, 2, 3};
    private int broken = 0;

    private final int[] pace = {10, 10, 10, 10, 10, 10, 10, 10};
    private final int[] reach = {1, 1, 1, 1, 1, 1, 1, 1};
    private final int[] tired = new int[8];
    private Ahead ahead = null;

    private int[] scores = new int[3];
    private int serves = 0;

    private final List<int[]> notes = new ArrayList<>();

    private int price = 20;
    private int loss = 2;
    private final int[] wear = {3, 1, 1, 2};
    private final List<Integer> plan = new ArrayList<>();

    private int courts = 2;
    private final Map<Integer, Integer> grade = new HashMap<>();
    private final Map<Integer, Integer> waited = new HashMap<>();
    private final List<List<int[]>> roundsPlayed = new ArrayList<>();

    // ---- flights

    private static boolean no(int value, int below) {
        return value < 0 || value >= below;
    }

    int kind(int kind, int s, int d, int m) {
        if (no(kind, 4)) return UNKNOWN;
        if (s < 10 || s > 60 || d < 0 || d > 60 || m < 1 || m > 6) return OUTSIDE;
        speed[kind] = s;
        drag[kind] = d;
        meet[kind] = m;
        return 1;
    }

    int broken(int b) {
        if (no(b, 9)) return OUTSIDE;
        int was = broken;
        broken = b;
        return was;
    }

    private int length(int a, int t) {
        return 10 * (a / 4 + t / 4 + 1) + 5 * Math.abs(a % 4 - t % 4);
    }

    /** GONE behind each TICK, that in which it LANDS the last. */
    private List<Integer> gone(int kind, int a, int t) {
        int whole = Math.floorDiv(length(a, t) * (100 - 4 * broken), 100);
        List<Integer> list = new ArrayList<>();
        int step = speed[kind];
        int sum = 0;
        while (sum < whole) {
            sum = Math.min(whole, sum + step);
            list.add(sum);
            step = Math.max(2, Math.floorDiv(step * (100 - drag[kind] - 2 * broken), 100));
        }
        return list;
    }

    private int place(int a, int t, int gone) {
        int rows = a / 4 + t / 4 + 1;
        int length = length(a, t);
        int g = Math.floorDiv(rows * gone, length);
        if (g <= a / 4) return NONE;
        int aside = Math.floorDiv(Math.abs(t % 4 - a % 4) * gone, length);
        int col = t % 4 > a % 4 ? a % 4 + aside : a % 4 - aside;
        return 4 * (g - a / 4 - 1) + col;
    }

    private int landing(int kind, int a, int t) {
        return gone(kind, a, t).size();
    }

    private int cellIn(int kind, int a, int t, int tick) {
        List<Integer> gone = gone(kind, a, t);
        return place(a, t, gone.get(Math.min(tick, gone.size()) - 1));
    }

    private boolean net(int kind, int a, int t) {
        return cellIn(kind, a, t, landing(kind, a, t)) == NONE;
    }

    private List<Integer> metTicks(int kind, int a, int t) {
        int lands = landing(kind, a, t);
        List<Integer> ticks = new ArrayList<>();
        for (int n = 1; n <= lands; n++) {
            if (n > lands - meet[kind] && cellIn(kind, a, t, n) != NONE) ticks.add(n);
        }
        return ticks;
    }

    int flight(int kind, int a, int t, int what) {
        if (no(kind, 4) || no(a, 16) || no(t, 16)) return UNKNOWN;
        if (no(what, 3)) return OUTSIDE;
        if (what == 0) return landing(kind, a, t);
        if (what == 1) return cellIn(kind, a, t, landing(kind, a, t));
        List<Integer> ticks = metTicks(kind, a, t);
        return ticks.isEmpty() ? NONE : ticks.get(0);
    }

    int over(int kind, int a, int t, int n) {
        if (no(kind, 4) || no(a, 16) || no(t, 16)) return UNKNOWN;
        if (n < 1 || n > 60) return OUTSIDE;
        return cellIn(kind, a, t, n);
    }

    // ---- players

    int player(int player, int p, int r) {
        if (no(player, 8)) return UNKNOWN;
        if (p < 1 || p > 20 || no(r, 3)) return OUTSIDE;
        pace[player] = p;
        reach[player] = r;
        return 1;
    }

    int run(int player, int cells) {
        if (no(player, 8)) return UNKNOWN;
        if (no(cells, 101)) return OUTSIDE;
        tired[player] = Math.min(100, tired[player] + cells);
        return tired[player];
    }

    int rest(int player, int by) {
        if (no(player, 8)) return UNKNOWN;
        if (no(by, 101)) return OUTSIDE;
        tired[player] = Math.max(0, tired[player] - by);
        return tired[player];
    }

    private int stride(int player) {
        return Math.max(1, pace[player] * (200 - tired[player]) / 200);
    }

    private int comes(int player, int n) {
        return n * stride(player) / 10;
    }

    private static int far(int one, int two) {
        return Math.max(Math.abs(one / 4 - two / 4), Math.abs(one % 4 - two % 4));
    }

    private int spare(int player, int cell, int kind, int a, int t, int n) {
        int lacking = far(cell, cellIn(kind, a, t, n)) - reach[player];
        return comes(player, n) - Math.max(0, lacking);
    }

    int slack(int player, int cell, int kind, int a, int t) {
        if (no(player, 8) || no(cell, 16) || no(kind, 4) || no(a, 16) || no(t, 16)) return -102;
        if (net(kind, a, t)) return -100;
        int most = Integer.MIN_VALUE;
        for (int n : metTicks(kind, a, t)) most = Math.max(most, spare(player, cell, kind, a, t, n));
        return most;
    }

    /** The first TICK in which a PLAYER MEETS it; 0: it does not. */
    private int meets(int player, int cell, int kind, int a, int t) {
        for (int n : metTicks(kind, a, t)) {
            if (spare(player, cell, kind, a, t, n) >= 0) return n;
        }
        return 0;
    }

    int strike(int a, int player, int c, int what) {
        if (no(a, 16) || no(player, 8) || no(c, 16)) return -102;
        if (no(what, 2)) return -103;
        int best = NONE;
        int least = -100;
        for (int kind = 0; kind < 4; kind++) {
            for (int t = 0; t < 16; t++) {
                if (net(kind, a, t)) continue;
                int slack = slack(player, c, kind, a, t);
                if (best == NONE || slack < least) {
                    best = 16 * kind + t;
                    least = slack;
                }
            }
        }
        return what == 0 ? best : least;
    }

    int stand(int player, int a, int what) {
        if (no(player, 8) || no(a, 16)) return -102;
        if (no(what, 2)) return -103;
        int best = NONE;
        int most = -100;
        for (int cell = 0; cell < 16; cell++) {
            if (strike(a, player, cell, 0) == NONE) continue;
            int least = strike(a, player, cell, 1);
            if (best == NONE || least > most) {
                best = cell;
                most = least;
            }
        }
        return what == 0 ? best : most;
    }

    int wins(int p, int q, int a, int c, int n) {
        if (no(p, 8) || no(q, 8) || no(a, 16) || no(c, 16)) return UNKNOWN;
        if (n < 1 || n > 4 || p == q) return OUTSIDE;
        String state = java.util.Arrays.deepToString(new Object[] {speed, drag, meet, broken, pace, reach, tired, p, q});
        if (ahead == null || !ahead.state.equals(state)) ahead = new Ahead(p, q, state);
        return ahead.wins(a, c, n) ? 1 : 0;
    }

    /** A RALLY of two looked at ahead, with each FLIGHT's meeting found once. */
    private final class Ahead {
        private final int p;
        private final int q;
        private final String state;
        private final Map<Integer, Boolean> seen = new HashMap<>();
        private final Map<Integer, int[]> meetings = new HashMap<>();

        Ahead(int p, int q, String state) {
            this.p = p;
            this.q = q;
            this.state = state;
        }

        /** TICK and CELL in which a PLAYER in a CELL MEETS; TICK 0: it does not; null: NET. */
        private int[] meeting(int player, int cell, int kind, int a, int t) {
            int key = (((player * 16 + cell) * 4 + kind) * 16 + a) * 16 + t;
            if (!meetings.containsKey(key)) {
                int tick = meets(player, cell, kind, a, t);
                int[] found = {tick, tick == 0 ? NONE : cellIn(kind, a, t, tick)};
                meetings.put(key, net(kind, a, t) ? null : found);
            }
            return meetings.get(key);
        }

        boolean wins(int a, int c, int n) {
            int key = (a * 16 + c) * 5 + n;
            if (!seen.containsKey(key)) seen.put(key, n == 1 ? atOnce(a, c) : later(a, c, n));
            return seen.get(key);
        }

        private boolean atOnce(int a, int c) {
            for (int kind = 0; kind < 4; kind++) {
                for (int t = 0; t < 16; t++) {
                    int[] met = meeting(q, c, kind, a, t);
                    if (met != null && met[0] == 0) return true;
                }
            }
            return false;
        }

        private boolean later(int a, int c, int n) {
            if (wins(a, c, n - 1)) return true;
            for (int kind = 0; kind < 4; kind++) {
                for (int t = 0; t < 16; t++) {
                    int[] met = meeting(q, c, kind, a, t);
                    if (met == null || met[0] == 0) continue;
                    for (int b = 0; b < 16; b++) {
                        if (far(a, b) <= comes(p, met[0]) && holds(b, met[1], n)) return true;
                    }
                }
            }
            return false;
        }

        private boolean holds(int b, int d, int n) {
            for (int kind = 0; kind < 4; kind++) {
                for (int t = 0; t < 16; t++) {
                    int[] met = meeting(p, b, kind, d, t);
                    if (met == null) continue;
                    if (met[0] == 0) return false;
                    for (int f = 0; f < 16; f++) {
                        if (far(d, f) <= comes(q, met[0]) && !wins(met[1], f, n - 1)) return false;
                    }
                }
            }
            return true;
        }
    }

    // ---- three

    private int alone() {
        int most = Math.max(scores[0], Math.max(scores[1], scores[2]));
        return scores[0] == most ? 0 : scores[1] == most ? 1 : 2;
    }

    private boolean isOver() {
        return scores[0] >= 15 || scores[1] >= 15 || scores[2] >= 15;
    }

    int rally(int how) {
        if (no(how, 3)) return OUTSIDE;
        if (isOver()) return NOT;
        int alone = alone();
        if (how == 0) {
            scores[alone]++;
            serves = alone;
        }
        if (how == 1) {
            int least = Integer.MAX_VALUE;
            for (int one = 0; one < 3; one++) {
                if (one == alone) continue;
                scores[one]++;
                if (scores[one] < least) {
                    least = scores[one];
                    serves = one;
                }
            }
        }
        return serves;
    }

    int three(int what) {
        if (no(what, 6)) return OUTSIDE;
        if (what < 3) return scores[what];
        return what == 3 ? alone() : what == 4 ? serves : isOver() ? 1 : 0;
    }

    int again() {
        int points = scores[0] + scores[1] + scores[2];
        scores = new int[3];
        serves = 0;
        return points;
    }

    // ---- notes

    int note(int zone, int kind, boolean left) {
        if (zone < -1 || zone > 3 || kind < -1 || kind > 3) return OUTSIDE;
        if (notes.size() == 60) return FULL;
        int[] other = {1, 0, 3, 2};
        notes.add(new int[] {zone >= 0 && left ? other[zone] : zone, kind});
        return notes.size();
    }

    int tally(int zone, int kind, int what) {
        if (no(zone, 4) || no(kind, 4)) return UNKNOWN;
        if (no(what, 4)) return OUTSIDE;
        int found = 0;
        for (int[] note : notes) {
            if (note[0] == -1 || note[1] == -1) continue;
            boolean asked = (what == 1 || what == 3 || note[1] == kind) && (what >= 2 || note[0] == zone);
            if (asked) found++;
        }
        return found;
    }

    private boolean isTried(int zone, int kind) {
        return tally(zone, kind, 1) > 0 && tally(zone, kind, 2) > 0;
    }

    private int tried() {
        int found = 0;
        for (int habit = 0; habit < 16; habit++) {
            if (isTried(habit / 4, habit % 4)) found++;
        }
        return found;
    }

    private static BigInteger factorial(int n) {
        BigInteger product = BigInteger.ONE;
        for (int i = 2; i <= n; i++) product = product.multiply(BigInteger.valueOf(i));
        return product;
    }

    private static BigInteger choose(int all, int some) {
        if (some < 0 || some > all) return BigInteger.ZERO;
        return factorial(all).divide(factorial(some)).divide(factorial(all - some));
    }

    int habit(int zone, int kind) {
        if (no(zone, 4) || no(kind, 4)) return UNKNOWN;
        if (!isTried(zone, kind)) return 0;
        int n = tally(zone, kind, 1);
        int k = tally(zone, kind, 2);
        int all = tally(zone, kind, 3);
        BigInteger sum = BigInteger.ZERO;
        for (int i = tally(zone, kind, 0); i <= n; i++) {
            sum = sum.add(choose(k, i).multiply(choose(all - k, n - i)));
        }
        return sum.multiply(BigInteger.valueOf(20L * tried())).compareTo(choose(all, n)) <= 0 ? 1 : 0;
    }

    int strongest() {
        int best = NONE;
        for (int habit = 0; habit < 16; habit++) {
            if (habit(habit / 4, habit % 4) != 1) continue;
            if (best == NONE || share(habit, best) > share(best, habit)) best = habit;
        }
        return best;
    }

    private int share(int one, int two) {
        return tally(one / 4, one % 4, 0) * tally(two / 4, two % 4, 1);
    }

    // ---- feathers

    int cost(int what, int v) {
        if (no(what, 2)) return OUTSIDE;
        if (what == 0 ? v < 1 || v > 999 : no(v, 100)) return OUTSIDE;
        int was = what == 0 ? price : loss;
        if (what == 0) price = v; else loss = v;
        return was;
    }

    int wear(int kind, int v) {
        if (no(kind, 4)) return UNKNOWN;
        if (no(v, 10)) return OUTSIDE;
        int was = wear[kind];
        wear[kind] = v;
        return was;
    }

    int plan(int kind) {
        if (no(kind, 4)) return UNKNOWN;
        if (plan.size() == 30) return FULL;
        plan.add(kind);
        return plan.size();
    }

    int unplan() {
        int was = plan.size();
        plan.clear();
        return was;
    }

    int costs(int s) {
        if (s < 1 || s > 120) return OUTSIDE;
        if (plan.isEmpty()) return NOT;
        int sum = price;
        for (int strike = 0; strike < s; strike++) {
            int worn = 0;
            for (int before = 0; before < strike; before++) worn += wear[plan.get(before % plan.size())];
            sum += loss * Math.min(8, worn / 10);
        }
        return sum;
    }

    int change() {
        if (plan.isEmpty()) return NOT;
        int best = 1;
        for (int s = 2; s <= 120; s++) {
            if (costs(s) * best < costs(best) * s) best = s;
        }
        return best;
    }

    // ---- evenings

    int courts(int n) {
        if (n < 1 || n > 4) return OUTSIDE;
        int was = courts;
        courts = n;
        return was;
    }

    int come(int player, int g) {
        if (no(player, 8)) return UNKNOWN;
        if (no(g, 100)) return OUTSIDE;
        if (grade.containsKey(player)) return NOT;
        grade.put(player, g);
        waited.put(player, 0);
        return grade.size();
    }

    int leave(int player) {
        if (no(player, 8)) return UNKNOWN;
        if (!grade.containsKey(player)) return NOT;
        grade.remove(player);
        waited.remove(player);
        return grade.size();
    }

    /** Every ROUND of so many GAMES, each GAME {lesser, greater}, in no order that is relied on. */
    private void rounds(int games, List<int[]> sofar, List<List<int[]>> all) {
        if (sofar.size() == games) {
            all.add(new ArrayList<>(sofar));
            return;
        }
        for (int two = 7; two > 0; two--) {
            for (int one = two - 1; one >= 0; one--) {
                boolean fits = grade.containsKey(one) && grade.containsKey(two);
                for (int[] game : sofar) {
                    boolean met = game[0] == one || game[1] == one || game[0] == two || game[1] == two;
                    fits = fits && !met && game[0] < one;
                }
                if (!fits) continue;
                sofar.add(new int[] {one, two});
                rounds(games, sofar, all);
                sofar.remove(sofar.size() - 1);
            }
        }
    }

    private int of(List<int[]> round, int what) {
        int sum = 0;
        for (int[] game : round) {
            if (what == 0) sum++;
            if (what == 1) sum += waited.get(game[0]) + waited.get(game[1]);
            if (what == 2) sum += had(game[0], game[1]);
            if (what == 3) sum += Math.abs(grade.get(game[0]) - grade.get(game[1]));
        }
        return sum;
    }

    private boolean isBetter(List<int[]> one, List<int[]> two) {
        if (of(one, 1) != of(two, 1)) return of(one, 1) > of(two, 1);
        if (of(one, 2) != of(two, 2)) return of(one, 2) < of(two, 2);
        if (of(one, 3) != of(two, 3)) return of(one, 3) < of(two, 3);
        for (int game = 0; game < one.size(); game++) {
            for (int side = 0; side < 2; side++) {
                if (one.get(game)[side] != two.get(game)[side]) return one.get(game)[side] < two.get(game)[side];
            }
        }
        return false;
    }

    private List<int[]> bestRound() {
        List<List<int[]>> all = new ArrayList<>();
        rounds(Math.min(courts, grade.size() / 2), new ArrayList<>(), all);
        List<int[]> best = all.get(0);
        for (List<int[]> round : all) {
            if (isBetter(round, best)) best = round;
        }
        return best;
    }

    int against(int player) {
        if (no(player, 8)) return UNKNOWN;
        for (int[] game : bestRound()) {
            if (game[0] == player) return game[1];
            if (game[1] == player) return game[0];
        }
        return NONE;
    }

    int round(int what) {
        if (no(what, 4)) return OUTSIDE;
        return of(bestRound(), what);
    }

    int played() {
        List<int[]> best = bestRound();
        for (int player : new ArrayList<>(waited.keySet())) waited.put(player, waited.get(player) + 1);
        for (int[] game : best) {
            waited.put(game[0], 0);
            waited.put(game[1], 0);
        }
        roundsPlayed.add(best);
        return best.size();
    }

    int had(int one, int two) {
        if (no(one, 8) || no(two, 8) || one == two) return UNKNOWN;
        int found = 0;
        for (List<int[]> round : roundsPlayed) {
            for (int[] game : round) {
                if (game[0] == Math.min(one, two) && game[1] == Math.max(one, two)) found++;
            }
        }
        return found;
    }

    int of(int player, int what) {
        if (no(player, 8)) return UNKNOWN;
        if (no(what, 5)) return OUTSIDE;
        if (what == 0) return stride(player);
        if (what == 1) return tired[player];
        if (what == 2) return waited.getOrDefault(player, NONE);
        if (what == 3) return grade.getOrDefault(player, NONE);
        int found = 0;
        for (int other = 0; other < 8; other++) {
            if (other != player) found += had(player, other);
        }
        return found;
    }

    int count(int what) {
        if (no(what, 5)) return OUTSIDE;
        int[] counts = {notes.size(), tried(), grade.size(), roundsPlayed.size(), plan.size()};
        return counts[what];
    }
}
