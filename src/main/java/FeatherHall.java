import java.util.Arrays;

/**
 * A hall of feathers: flights over the net, players who meet them, three who play one against two,
 * notes of habits, the cost of feathers and an evening's courts. The words in capitals are those of
 * the document; each call of the face tests its arguments and hands the rest to one of the classes inside.
 */
public final class FeatherHall {
    public static final int NONE = -1, UNKNOWN = -2, OUTSIDE = -3, NOT = -4, FULL = -5;

    private static final int CELLS = 16;
    private static final int KINDS = 4;
    private static final int ZONES = 4;
    private static final int PLAYERS = 8;
    private static final int MOST_TICKS = 60;

    // A SLACK may itself be below 0, so its refusals lie far below every SLACK.
    private static final int NET_SLACK = -100;
    private static final int UNKNOWN_SLACK = -102;
    private static final int OUTSIDE_SLACK = -103;

    private final Air air;
    private final Squad squad;
    private final Duel duel;
    private final Trio trio;
    private final Notebook notebook;
    private final Basket basket;
    private final Evening evening;

    public FeatherHall() {
        air = new Air();
        squad = new Squad();
        duel = new Duel(air, squad);
        trio = new Trio();
        notebook = new Notebook();
        basket = new Basket();
        evening = new Evening();
    }

    // ---- flights

    public int kind(int kind, int speed, int drag, int meet) {
        if (!isKind(kind)) {
            return UNKNOWN;
        }
        if (!isWithin(speed, 10, 60) || !isWithin(drag, 0, 60) || !isWithin(meet, 1, 6)) {
            return OUTSIDE;
        }
        air.setKind(kind, speed, drag, meet);
        return 1;
    }

    public int broken(int b) {
        if (!isWithin(b, 0, 8)) {
            return OUTSIDE;
        }
        return air.setBroken(b);
    }

    public int flight(int kind, int a, int t, int what) {
        if (!isKind(kind) || !isCell(a) || !isCell(t)) {
            return UNKNOWN;
        }
        if (!isWithin(what, 0, 2)) {
            return OUTSIDE;
        }
        long path = air.pathOf(kind, a, t);
        int landing = Air.landingOf(path);
        if (what == 0) {
            return landing;
        }
        if (Air.isNet(path)) {
            return NONE;
        }
        return what == 1 ? Air.cellAt(path, landing) : Air.firstMetOf(path);
    }

    public int over(int kind, int a, int t, int n) {
        if (!isKind(kind) || !isCell(a) || !isCell(t)) {
            return UNKNOWN;
        }
        if (!isWithin(n, 1, MOST_TICKS)) {
            return OUTSIDE;
        }
        return air.placeBehind(kind, a, t, n);
    }

    // ---- players

    public int player(int player, int pace, int reach) {
        if (!isPlayer(player)) {
            return UNKNOWN;
        }
        if (!isWithin(pace, 1, 20) || !isWithin(reach, 0, 2)) {
            return OUTSIDE;
        }
        squad.setPlayer(player, pace, reach);
        return 1;
    }

    public int run(int player, int cells) {
        if (!isPlayer(player)) {
            return UNKNOWN;
        }
        if (!isWithin(cells, 0, 100)) {
            return OUTSIDE;
        }
        return squad.tire(player, cells);
    }

    public int rest(int player, int by) {
        if (!isPlayer(player)) {
            return UNKNOWN;
        }
        if (!isWithin(by, 0, 100)) {
            return OUTSIDE;
        }
        return squad.tire(player, -by);
    }

    public int slack(int player, int cell, int kind, int a, int t) {
        if (!isPlayer(player) || !isCell(cell) || !isKind(kind) || !isCell(a) || !isCell(t)) {
            return UNKNOWN_SLACK;
        }
        return duel.slackFor(player, cell, air.pathOf(kind, a, t));
    }

    public int strike(int a, int player, int c, int what) {
        if (!isCell(a) || !isPlayer(player) || !isCell(c)) {
            return UNKNOWN_SLACK;
        }
        if (!isWithin(what, 0, 1)) {
            return OUTSIDE_SLACK;
        }
        air.workOutFrom(a);
        return what == 0 ? duel.bestStrike(a, player, c) : duel.leastSlack(a, player, c);
    }

    public int stand(int player, int a, int what) {
        if (!isPlayer(player) || !isCell(a)) {
            return UNKNOWN_SLACK;
        }
        if (!isWithin(what, 0, 1)) {
            return OUTSIDE_SLACK;
        }
        air.workOutFrom(a);
        int cell = duel.bestStand(player, a);
        if (what == 0) {
            return cell;
        }
        return cell == NONE ? NET_SLACK : duel.leastSlack(a, player, cell);
    }

    public int wins(int p, int q, int a, int c, int n) {
        if (!isPlayer(p) || !isPlayer(q) || !isCell(a) || !isCell(c)) {
            return UNKNOWN;
        }
        if (!isWithin(n, 1, 4) || p == q) {
            return OUTSIDE;
        }
        return duel.canForce(p, q, a, c, n) ? 1 : 0;
    }

    // ---- three

    public int rally(int how) {
        if (!isWithin(how, 0, 2)) {
            return OUTSIDE;
        }
        if (trio.isOver()) {
            return NOT;
        }
        return trio.tell(how);
    }

    public int three(int what) {
        if (!isWithin(what, 0, 5)) {
            return OUTSIDE;
        }
        return trio.read(what);
    }

    public int again() {
        return trio.restart();
    }

    // ---- notes

    public int note(int zone, int kind, boolean left) {
        if (!isWithin(zone, -1, ZONES - 1) || !isWithin(kind, -1, KINDS - 1)) {
            return OUTSIDE;
        }
        return notebook.add(zone, kind, left);
    }

    public int tally(int zone, int kind, int what) {
        if (!isZone(zone) || !isKind(kind)) {
            return UNKNOWN;
        }
        if (!isWithin(what, 0, 3)) {
            return OUTSIDE;
        }
        return notebook.read(zone, kind, what);
    }

    public int habit(int zone, int kind) {
        if (!isZone(zone) || !isKind(kind)) {
            return UNKNOWN;
        }
        return notebook.isPastChance(zone, kind) ? 1 : 0;
    }

    public int strongest() {
        return notebook.strongestHabit();
    }

    // ---- feathers

    public int cost(int what, int v) {
        if (!isWithin(what, 0, 1)) {
            return OUTSIDE;
        }
        if (what == 0) {
            return isWithin(v, 1, 999) ? basket.setPrice(v) : OUTSIDE;
        }
        return isWithin(v, 0, 99) ? basket.setLoss(v) : OUTSIDE;
    }

    public int wear(int kind, int v) {
        if (!isKind(kind)) {
            return UNKNOWN;
        }
        if (!isWithin(v, 0, 9)) {
            return OUTSIDE;
        }
        return basket.setWear(kind, v);
    }

    public int plan(int kind) {
        if (!isKind(kind)) {
            return UNKNOWN;
        }
        return basket.add(kind);
    }

    public int unplan() {
        return basket.clear();
    }

    public int costs(int s) {
        if (!isWithin(s, 1, Basket.MOST_STRIKES)) {
            return OUTSIDE;
        }
        if (basket.isEmpty()) {
            return NOT;
        }
        return basket.wholeCost(s);
    }

    public int change() {
        if (basket.isEmpty()) {
            return NOT;
        }
        return basket.bestChange();
    }

    // ---- evenings

    public int courts(int n) {
        if (!isWithin(n, 1, 4)) {
            return OUTSIDE;
        }
        return evening.setCourts(n);
    }

    public int come(int player, int grade) {
        if (!isPlayer(player)) {
            return UNKNOWN;
        }
        if (!isWithin(grade, 0, 99)) {
            return OUTSIDE;
        }
        if (evening.isThere(player)) {
            return NOT;
        }
        return evening.enter(player, grade);
    }

    public int leave(int player) {
        if (!isPlayer(player)) {
            return UNKNOWN;
        }
        if (!evening.isThere(player)) {
            return NOT;
        }
        return evening.exit(player);
    }

    public int against(int player) {
        if (!isPlayer(player)) {
            return UNKNOWN;
        }
        return evening.mateOf(player);
    }

    public int round(int what) {
        if (!isWithin(what, 0, 3)) {
            return OUTSIDE;
        }
        return evening.readRound(what);
    }

    public int played() {
        return evening.playRound();
    }

    public int had(int one, int two) {
        if (!isPlayer(one) || !isPlayer(two) || one == two) {
            return UNKNOWN;
        }
        return evening.gamesOfBoth(one, two);
    }

    public int of(int player, int what) {
        if (!isPlayer(player)) {
            return UNKNOWN;
        }
        switch (what) {
            case 0:
                return squad.strideOf(player);
            case 1:
                return squad.tiredOf(player);
            case 2:
                return evening.waitedOf(player);
            case 3:
                return evening.gradeOf(player);
            case 4:
                return evening.gamesOf(player);
            default:
                return OUTSIDE;
        }
    }

    public int count(int what) {
        switch (what) {
            case 0:
                return notebook.size();
            case 1:
                return notebook.triedHabits();
            case 2:
                return evening.thereNow();
            case 3:
                return evening.roundsPlayed();
            case 4:
                return basket.size();
            default:
                return OUTSIDE;
        }
    }

    private static boolean isWithin(int value, int least, int most) {
        return value >= least && value <= most;
    }

    private static boolean isCell(int cell) {
        return isWithin(cell, 0, CELLS - 1);
    }

    private static boolean isKind(int kind) {
        return isWithin(kind, 0, KINDS - 1);
    }

    private static boolean isZone(int zone) {
        return isWithin(zone, 0, ZONES - 1);
    }

    private static boolean isPlayer(int player) {
        return isWithin(player, 0, PLAYERS - 1);
    }

    /** What the CELLS of a side have to do with one another; sets of CELLS are masks with a bit for each. */
    private static final class Court {
        private static final int ALL = 0xFFFF;

        private Court() {
        }

        static int rowOf(int cell) {
            return cell / 4;
        }

        static int colOf(int cell) {
            return cell % 4;
        }

        static int far(int one, int two) {
            return Math.max(Math.abs(rowOf(one) - rowOf(two)), Math.abs(colOf(one) - colOf(two)));
        }

        /** The CELLS at most so FAR (0 or more) from a CELL. */
        static int near(int cell, int distance) {
            if (distance >= 3) {
                return ALL;
            }
            int firstRow = Math.max(0, rowOf(cell) - distance);
            int lastRow = Math.min(3, rowOf(cell) + distance);
            int firstCol = Math.max(0, colOf(cell) - distance);
            int lastCol = Math.min(3, colOf(cell) + distance);
            int rows = ALL << 4 * firstRow & ALL >> 4 * (3 - lastRow);
            int cols = (0xF << firstCol & 0xF >> 3 - lastCol) * 0x1111;
            return rows & cols;
        }

        static boolean holds(int cells, int cell) {
            return (cells >> cell & 1) == 1;
        }
    }

    /**
     * KINDS of strikes, THE FEATHER and its FLIGHTS. A path is one FLIGHT packed into a long, so that all
     * 1024 are kept without an object each: 6 bits the TICK in which it LANDS, 6 bits the first in which it
     * can be MET (0: NET), then 4 bits a CELL, that of landing first and those of the TICKS before it behind.
     */
    private static final class Air {
        private static final int MOST_MEETS = 6;

        private final int[] speeds = {60, 20, 30, 40};
        private final int[] drags = {30, 5, 20, 15};
        private final int[] meets = {2, 3, 2, 3};
        private final long[] paths = new long[KINDS * CELLS * CELLS];
        private int brokenOnes = 0;

        void setKind(int kind, int speed, int drag, int meet) {
            speeds[kind] = speed;
            drags[kind] = drag;
            meets[kind] = meet;
            for (int path = 0; path < CELLS * CELLS; path++) {
                paths[kind * CELLS * CELLS + path] = 0L;
            }
        }

        int setBroken(int ones) {
            int before = brokenOnes;
            brokenOnes = ones;
            Arrays.fill(paths, 0L);
            return before;
        }

        static int landingOf(long path) {
            return (int) (path & 63);
        }

        static int firstMetOf(long path) {
            return (int) (path >> 6 & 63);
        }

        static boolean isNet(long path) {
            return firstMetOf(path) == 0;
        }

        /** Where THE FEATHER is in one of the TICKS in which it can be MET. */
        static int cellAt(long path, int tick) {
            return (int) (path >> 12 + 4 * (landingOf(path) - tick) & 15);
        }

        long pathOf(int kind, int a, int t) {
            int index = (kind * CELLS + a) * CELLS + t;
            if (paths[index] == 0L) {
                paths[index] = workOut(kind, a, t);
            }
            return paths[index];
        }

        /** Has all strikes from a CELL ready for knownPath. */
        void workOutFrom(int a) {
            for (int strike = 0; strike < KINDS * CELLS; strike++) {
                pathOf(strike / CELLS, a, strike % CELLS);
            }
        }

        /** The path of a strike told as 16 KIND and t. */
        long knownPath(int a, int strike) {
            return paths[(strike / CELLS * CELLS + a) * CELLS + strike % CELLS];
        }

        int placeBehind(int kind, int a, int t, int ticks) {
            int length = lengthOf(a, t);
            int whole = wholeOf(length);
            int step = speeds[kind];
            int gone = 0;
            for (int tick = 1; tick <= ticks && gone < whole; tick++) {
                gone = Math.min(whole, gone + step);
                step = slowed(kind, step);
            }
            return placeAt(a, t, length, gone);
        }

        // Once over the net THE FEATHER stays over it, so the TICKS in which it is are the last ones.
        private long workOut(int kind, int a, int t) {
            int length = lengthOf(a, t);
            int whole = wholeOf(length);
            int step = speeds[kind];
            int gone = 0;
            int tick = 0;
            int ticksOver = 0;
            long cells = 0L;
            while (gone < whole && tick < MOST_TICKS) {
                tick++;
                gone = Math.min(whole, gone + step);
                step = slowed(kind, step);
                int cell = placeAt(a, t, length, gone);
                if (cell != NONE) {
                    ticksOver++;
                    cells = cells << 4 | cell;
                }
            }
            int firstMet = ticksOver == 0 ? 0 : tick + 1 - Math.min(ticksOver, meets[kind]);
            long kept = cells & (1L << 4 * MOST_MEETS) - 1L;
            return kept << 12 | (long) firstMet << 6 | (long) tick;
        }

        private int slowed(int kind, int step) {
            return Math.max(2, step * (100 - drags[kind] - 2 * brokenOnes) / 100);
        }

        private int wholeOf(int length) {
            return length * (100 - 4 * brokenOnes) / 100;
        }

        private static int lengthOf(int a, int t) {
            int rows = Court.rowOf(a) + Court.rowOf(t) + 1;
            return 10 * rows + 5 * Math.abs(Court.colOf(a) - Court.colOf(t));
        }

        // LENGTH is 10 at least for any two CELLS; Java cuts towards 0, hence towards COL a.
        private static int placeAt(int a, int t, int length, int gone) {
            if (length < 1) {
                return NONE;
            }
            int rows = Court.rowOf(a) + Court.rowOf(t) + 1;
            int row = rows * gone / length - Court.rowOf(a) - 1;
            if (row < 0) {
                return NONE;
            }
            int col = Court.colOf(a) + (Court.colOf(t) - Court.colOf(a)) * gone / length;
            return 4 * row + col;
        }
    }

    /** PLAYERS as they run. */
    private static final class Squad {
        private final int[] paces = new int[PLAYERS];
        private final int[] reaches = new int[PLAYERS];
        private final int[] tireds = new int[PLAYERS];
        private final int[] strides = new int[PLAYERS];

        Squad() {
            Arrays.fill(paces, 10);
            Arrays.fill(reaches, 1);
            Arrays.fill(strides, 10);
        }

        void setPlayer(int player, int pace, int reach) {
            paces[player] = pace;
            reaches[player] = reach;
            setStride(player);
        }

        int tire(int player, int by) {
            tireds[player] = Math.max(0, Math.min(100, tireds[player] + by));
            setStride(player);
            return tireds[player];
        }

        int tiredOf(int player) {
            return tireds[player];
        }

        int reachOf(int player) {
            return reaches[player];
        }

        int strideOf(int player) {
            return strides[player];
        }

        /** How FAR a PLAYER comes in so many TICKS. */
        int comes(int player, int ticks) {
            return ticks * strides[player] / 10;
        }

        /** The CELLS from which a PLAYER can MEET THE FEATHER that is in a CELL in a TICK. */
        int meetingCells(int player, int cell, int tick) {
            return Court.near(cell, comes(player, tick) + reaches[player]);
        }

        private void setStride(int player) {
            strides[player] = Math.max(1, paces[player] * (200 - tireds[player]) / 200);
        }
    }

    /** One PLAYER who strikes against another: SLACK, BEST STRIKE, BEST STAND and a RALLY looked at ahead. */
    private static final class Duel {
        private static final int STRIKES = KINDS * CELLS;

        private final Air air;
        private final Squad squad;
        // By the CELL of the one about to strike: the CELLS of the other against which it WINS so far.
        private final int[] won = new int[CELLS];
        // By the CELL in which the other MEETS: the CELLS where one holds all its answers and then WINS.
        private final int[] held = new int[CELLS];

        Duel(Air air, Squad squad) {
            this.air = air;
            this.squad = squad;
        }

        int slackFor(int player, int cell, long path) {
            if (Air.isNet(path)) {
                return NET_SLACK;
            }
            int reach = squad.reachOf(player);
            int most = NET_SLACK;
            for (int tick = Air.firstMetOf(path); tick <= Air.landingOf(path); tick++) {
                int lacking = Math.max(0, Court.far(cell, Air.cellAt(path, tick)) - reach);
                most = Math.max(most, squad.comes(player, tick) - lacking);
            }
            return most;
        }

        /** 16 KIND and t of BEST STRIKE; NONE: all are NET. */
        int bestStrike(int a, int player, int c) {
            int best = NONE;
            int least = 0;
            for (int strike = 0; strike < STRIKES; strike++) {
                long path = air.knownPath(a, strike);
                if (Air.isNet(path)) {
                    continue;
                }
                int slack = slackFor(player, c, path);
                if (best == NONE || slack < least) {
                    best = strike;
                    least = slack;
                }
            }
            return best;
        }

        int leastSlack(int a, int player, int c) {
            int strike = bestStrike(a, player, c);
            return strike == NONE ? NET_SLACK : slackFor(player, c, air.knownPath(a, strike));
        }

        int bestStand(int player, int a) {
            int best = NONE;
            int most = NET_SLACK;
            for (int cell = 0; cell < CELLS; cell++) {
                int least = leastSlack(a, player, cell);
                if (least > most) {
                    best = cell;
                    most = least;
                }
            }
            return best;
        }

        boolean canForce(int p, int q, int a, int c, int n) {
            air.workOutFrom(a);
            if (Court.holds(missedFrom(q, a), c)) {
                return true;
            }
            if (n == 1) {
                return false;
            }
            for (int cell = 0; cell < CELLS; cell++) {
                air.workOutFrom(cell);
                won[cell] = missedFrom(q, cell);
            }
            // What did not grow by one strike more can't grow by further ones.
            boolean grew = true;
            for (int within = 2; within <= n && grew; within++) {
                grew = widenWon(p, q);
            }
            return Court.holds(won[a], c);
        }

        private boolean widenWon(int p, int q) {
            for (int cell = 0; cell < CELLS; cell++) {
                held[cell] = heldAgainst(p, q, cell);
            }
            boolean grew = false;
            for (int cell = 0; cell < CELLS; cell++) {
                int wider = won[cell] | forcedFrom(p, q, cell);
                grew = grew || wider != won[cell];
                won[cell] = wider;
            }
            return grew;
        }

        /** The CELLS in which q does not MEET some strike from a. */
        private int missedFrom(int q, int a) {
            int missed = 0;
            for (int strike = 0; strike < STRIKES; strike++) {
                long path = air.knownPath(a, strike);
                if (Air.isNet(path)) {
                    continue;
                }
                int met = 0;
                for (int tick = Air.firstMetOf(path); tick <= Air.landingOf(path); tick++) {
                    met |= squad.meetingCells(q, Air.cellAt(path, tick), tick);
                }
                missed |= Court.ALL & ~met;
            }
            return missed;
        }

        /** The CELLS in which p MEETS every strike of q from d, and has WON from there wherever q comes to. */
        private int heldAgainst(int p, int q, int d) {
            int all = Court.ALL;
            for (int strike = 0; strike < STRIKES && all != 0; strike++) {
                long path = air.knownPath(d, strike);
                if (Air.isNet(path)) {
                    continue;
                }
                int met = 0;
                int good = 0;
                for (int tick = Air.firstMetOf(path); tick <= Air.landingOf(path); tick++) {
                    int cell = Air.cellAt(path, tick);
                    int metNow = squad.meetingCells(p, cell, tick) & ~met;
                    met |= metNow;
                    if ((Court.near(d, squad.comes(q, tick)) & ~won[cell]) == 0) {
                        good |= metNow;
                    }
                }
                all &= good;
            }
            return all;
        }

        /** The CELLS in which q MEETS some strike of p from a so that p comes to a CELL that holds against it. */
        private int forcedFrom(int p, int q, int a) {
            int forced = 0;
            for (int strike = 0; strike < STRIKES; strike++) {
                long path = air.knownPath(a, strike);
                if (Air.isNet(path)) {
                    continue;
                }
                int met = 0;
                for (int tick = Air.firstMetOf(path); tick <= Air.landingOf(path); tick++) {
                    int cell = Air.cellAt(path, tick);
                    int metNow = squad.meetingCells(q, cell, tick) & ~met;
                    met |= metNow;
                    if ((Court.near(a, squad.comes(p, tick)) & held[cell]) != 0) {
                        forced |= metNow;
                    }
                }
            }
            return forced;
        }
    }

    /** THREE, one against two. */
    private static final class Trio {
        private static final int SIZE = 3;
        private static final int ENOUGH = 15;

        private final int[] scores = new int[SIZE];
        private int server = 0;

        boolean isOver() {
            return scores[aloneNow()] >= ENOUGH;
        }

        int tell(int how) {
            int alone = aloneNow();
            if (how == 0) {
                scores[alone]++;
                server = alone;
            } else if (how == 1) {
                int lesser = alone == 0 ? 1 : 0;
                int greater = alone == 2 ? 1 : 2;
                scores[lesser]++;
                scores[greater]++;
                server = scores[greater] < scores[lesser] ? greater : lesser;
            }
            return server;
        }

        int read(int what) {
            switch (what) {
                case 3:
                    return aloneNow();
                case 4:
                    return server;
                case 5:
                    return isOver() ? 1 : 0;
                default:
                    return what >= 0 && what < SIZE ? scores[what] : OUTSIDE;
            }
        }

        int restart() {
            int points = 0;
            for (int one = 0; one < SIZE; one++) {
                points += scores[one];
                scores[one] = 0;
            }
            server = 0;
            return points;
        }

        private int aloneNow() {
            int alone = 0;
            for (int one = 1; one < SIZE; one++) {
                if (scores[one] > scores[alone]) {
                    alone = one;
                }
            }
            return alone;
        }
    }

    /** NOTES, kept as what they add up to: none is ever taken back. */
    private static final class Notebook {
        private static final int MOST_NOTES = 60;

        private final int[] both = new int[ZONES * KINDS];
        private final int[] withZone = new int[ZONES];
        private final int[] withKind = new int[KINDS];
        private int withoutGap = 0;
        private int notes = 0;

        int size() {
            return notes;
        }

        int add(int zone, int kind, boolean left) {
            if (notes >= MOST_NOTES) {
                return FULL;
            }
            notes++;
            if (zone != NONE && kind != NONE) {
                int stood = left ? zone ^ 1 : zone;
                both[stood * KINDS + kind]++;
                withZone[stood]++;
                withKind[kind]++;
                withoutGap++;
            }
            return notes;
        }

        int read(int zone, int kind, int what) {
            switch (what) {
                case 0:
                    return both[zone * KINDS + kind];
                case 1:
                    return withZone[zone];
                case 2:
                    return withKind[kind];
                default:
                    return withoutGap;
            }
        }

        int triedHabits() {
            return aboveZero(withZone) * aboveZero(withKind);
        }

        /**
         * Whole numbers alone: all ways to choose are C(60, 30) at most, which a long holds, and times
         * 20 TRIED it does not; so those ways are cut by that number instead.
         */
        boolean isPastChance(int zone, int kind) {
            int n = withZone[zone];
            int k = withKind[kind];
            int tried = triedHabits();
            if (n == 0 || k == 0 || tried == 0) {
                return false;
            }
            long most = ways(withoutGap, n) / (20L * tried);
            long sum = 0L;
            for (int i = Math.min(n, k); i >= both[zone * KINDS + kind] && sum <= most; i--) {
                sum += ways(k, i) * ways(withoutGap - k, n - i);
            }
            return sum <= most;
        }

        int strongestHabit() {
            int best = NONE;
            int bestBoth = 0;
            int bestZone = 1;
            for (int habit = 0; habit < ZONES * KINDS; habit++) {
                int zone = habit / KINDS;
                boolean greater = best == NONE || both[habit] * bestZone > bestBoth * withZone[zone];
                if (greater && isPastChance(zone, habit % KINDS)) {
                    best = habit;
                    bestBoth = both[habit];
                    bestZone = withZone[zone];
                }
            }
            return best;
        }

        private static int aboveZero(int[] counts) {
            int found = 0;
            for (int count : counts) {
                if (count > 0) {
                    found++;
                }
            }
            return found;
        }

        /** How many ways to choose some of so many; each step of the product is itself such a number. */
        private static long ways(int all, int some) {
            if (some < 0 || some > all) {
                return 0L;
            }
            int few = Math.min(some, all - some);
            long ways = 1L;
            for (int i = 1; i <= few; i++) {
                ways = ways * (all - few + i) / i;
            }
            return ways;
        }
    }

    /** FEATHERS that are bought, and the PLAN by which they are struck. */
    private static final class Basket {
        private static final int MOST_STRIKES = 120;
        private static final int MOST_PLANNED = 30;

        private final int[] wears = {3, 1, 1, 2};
        private final int[] planned = new int[MOST_PLANNED];
        // What a FEATHER costs in all, by how many strikes it is CHANGED behind.
        private final int[] sums = new int[MOST_STRIKES + 1];
        private int length = 0;
        private int price = 20;
        private int loss = 2;

        int setPrice(int v) {
            int before = price;
            price = v;
            return before;
        }

        int setLoss(int v) {
            int before = loss;
            loss = v;
            return before;
        }

        int setWear(int kind, int v) {
            int before = wears[kind];
            wears[kind] = v;
            return before;
        }

        boolean isEmpty() {
            return length == 0;
        }

        int size() {
            return length;
        }

        int add(int kind) {
            if (length >= MOST_PLANNED) {
                return FULL;
            }
            planned[length] = kind;
            length++;
            return length;
        }

        int clear() {
            int before = length;
            length = 0;
            return before;
        }

        int wholeCost(int strikes) {
            addUp(strikes);
            return sums[strikes];
        }

        int bestChange() {
            addUp(MOST_STRIKES);
            int best = 1;
            for (int strikes = 2; strikes <= MOST_STRIKES; strikes++) {
                if (sums[strikes] * best < sums[best] * strikes) {
                    best = strikes;
                }
            }
            return best;
        }

        private void addUp(int most) {
            int worn = 0;
            int next = 0;
            sums[0] = price;
            for (int strikes = 1; strikes <= most; strikes++) {
                sums[strikes] = sums[strikes - 1] + loss * Math.min(8, worn / 10);
                worn += wears[planned[next]];
                next = next + 1 < length ? next + 1 : 0;
            }
        }
    }

    /** AN EVENING's PLAYERS and the BEST ROUND for them. */
    private static final class Evening {
        private final boolean[] there = new boolean[PLAYERS];
        private final int[] grades = new int[PLAYERS];
        private final int[] waited = new int[PLAYERS];
        private final int[] games = new int[PLAYERS * PLAYERS];
        private final int[] mates = new int[PLAYERS];
        private final int[] bestMates = new int[PLAYERS];
        private int courtsNow = 2;
        private int present = 0;
        private int rounds = 0;
        // BEST ROUND stays until a call changes what it hangs on.
        private boolean isSought = false;
        private boolean isFound = false;
        private int bestWaited = 0;
        private int bestBefore = 0;
        private int bestUneven = 0;

        int setCourts(int n) {
            int before = courtsNow;
            courtsNow = n;
            isSought = false;
            return before;
        }

        boolean isThere(int player) {
            return there[player];
        }

        int enter(int player, int grade) {
            there[player] = true;
            grades[player] = grade;
            waited[player] = 0;
            present++;
            isSought = false;
            return present;
        }

        int exit(int player) {
            there[player] = false;
            present--;
            isSought = false;
            return present;
        }

        int mateOf(int player) {
            seek();
            return bestMates[player];
        }

        int readRound(int what) {
            seek();
            switch (what) {
                case 0:
                    return gamesAtOnce();
                case 1:
                    return bestWaited;
                case 2:
                    return bestBefore;
                default:
                    return bestUneven;
            }
        }

        int playRound() {
            seek();
            for (int one = 0; one < PLAYERS; one++) {
                int two = bestMates[one];
                if (two != NONE) {
                    waited[one] = 0;
                    games[one * PLAYERS + two]++;
                } else if (there[one]) {
                    waited[one]++;
                }
            }
            rounds++;
            isSought = false;
            return gamesAtOnce();
        }

        int gamesOfBoth(int one, int two) {
            return games[one * PLAYERS + two];
        }

        int gamesOf(int player) {
            int sum = 0;
            for (int other = 0; other < PLAYERS; other++) {
                sum += games[player * PLAYERS + other];
            }
            return sum;
        }

        int waitedOf(int player) {
            return there[player] ? waited[player] : NONE;
        }

        int gradeOf(int player) {
            return there[player] ? grades[player] : NONE;
        }

        int thereNow() {
            return present;
        }

        int roundsPlayed() {
            return rounds;
        }

        private int gamesAtOnce() {
            return Math.min(courtsNow, present / 2);
        }

        private void seek() {
            if (isSought) {
                return;
            }
            isSought = true;
            isFound = false;
            Arrays.fill(mates, NONE);
            pairFrom(0, gamesAtOnce(), 0, 0, 0);
        }

        /**
         * Tries all ROUNDS in the order in which the first of equals is asked for: the least PLAYER plays
         * each greater one in turn, then none. No level is deeper than there are PLAYERS.
         */
        private void pairFrom(int one, int lacking, int waitedSum, int before, int uneven) {
            if (lacking == 0) {
                keepIfBetter(waitedSum, before, uneven);
                return;
            }
            if (one >= PLAYERS) {
                return;
            }
            if (isFree(one)) {
                for (int two = one + 1; two < PLAYERS; two++) {
                    if (isFree(two)) {
                        mates[one] = two;
                        mates[two] = one;
                        pairFrom(one + 1, lacking - 1, waitedSum + waited[one] + waited[two],
                                before + games[one * PLAYERS + two],
                                uneven + Math.abs(grades[one] - grades[two]));
                        mates[one] = NONE;
                        mates[two] = NONE;
                    }
                }
            }
            pairFrom(one + 1, lacking, waitedSum, before, uneven);
        }

        private boolean isFree(int player) {
            return there[player] && mates[player] == NONE;
        }

        private void keepIfBetter(int waitedSum, int before, int uneven) {
            if (isFound && !isBetter(waitedSum, before, uneven)) {
                return;
            }
            isFound = true;
            bestWaited = waitedSum;
            bestBefore = before;
            bestUneven = uneven;
            System.arraycopy(mates, 0, bestMates, 0, PLAYERS);
        }

        private boolean isBetter(int waitedSum, int before, int uneven) {
            if (waitedSum != bestWaited) {
                return waitedSum > bestWaited;
            }
            if (before != bestBefore) {
                return before < bestBefore;
            }
            return uneven < bestUneven;
        }
    }
}
