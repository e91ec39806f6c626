/** Promises 6 to 12: player, run, rest, slack, strike, stand, wins. */
public final class PlayersTest {
    private static final Check CHECK = new Check("PlayersTest");

    public static void main(String[] args) {
        players();
        running();
        slacks();
        strikes();
        stands();
        rallies();
        CHECK.finish();
    }

    /** All KINDS go 10 in each TICK and are MET only where they LAND. */
    private static FeatherHall slowFeathers() {
        FeatherHall x = new FeatherHall();
        for (int kind = 0; kind < 4; kind++) {
            x.kind(kind, 10, 0, 1);
        }
        return x;
    }

    private static void players() {
        FeatherHall x = new FeatherHall();
        CHECK.due("quickest", x.player(7, 20, 2), 1);
        CHECK.due("its STRIDE", x.of(7, 0), 20);
        CHECK.due("slowest", x.player(0, 1, 0), 1);
        CHECK.due("its STRIDE", x.of(0, 0), 1);
        CHECK.due("no PLAYER -1", x.player(-1, 10, 1), FeatherHall.UNKNOWN);
        CHECK.due("no PLAYER 8, also with wrong numbers", x.player(8, 0, 3), FeatherHall.UNKNOWN);
        CHECK.due("PACE 0", x.player(0, 0, 1), FeatherHall.OUTSIDE);
        CHECK.due("PACE 21", x.player(0, 21, 1), FeatherHall.OUTSIDE);
        CHECK.due("REACH -1", x.player(0, 10, -1), FeatherHall.OUTSIDE);
        CHECK.due("REACH 3", x.player(0, 10, 3), FeatherHall.OUTSIDE);
        CHECK.due("refused, nothing changed", x.of(0, 0), 1);
    }

    private static void running() {
        FeatherHall x = new FeatherHall();
        x.player(2, 7, 1);
        CHECK.due("run", x.run(2, 50), 50);
        CHECK.due("7 times 150 by 200, cut", x.of(2, 0), 5);
        CHECK.due("run 0", x.run(2, 0), 50);
        CHECK.due("100 at most", x.run(2, 100), 100);
        CHECK.due("half the PACE", x.of(2, 0), 3);
        CHECK.due("PACE may change while TIRED", x.player(2, 1, 1), 1);
        CHECK.due("STRIDE is 1 at least", x.of(2, 0), 1);
        CHECK.due("rest", x.rest(2, 30), 70);
        CHECK.due("TIRED", x.of(2, 1), 70);
        CHECK.due("rest 0", x.rest(2, 0), 70);
        CHECK.due("0 at least", x.rest(2, 100), 0);
        CHECK.due("others are not TIRED", x.of(3, 1), 0);
        CHECK.due("run: no PLAYER", x.run(8, 101), FeatherHall.UNKNOWN);
        CHECK.due("run: no PLAYER", x.run(-1, 1), FeatherHall.UNKNOWN);
        CHECK.due("run -1", x.run(2, -1), FeatherHall.OUTSIDE);
        CHECK.due("run 101", x.run(2, 101), FeatherHall.OUTSIDE);
        CHECK.due("rest: no PLAYER", x.rest(8, 101), FeatherHall.UNKNOWN);
        CHECK.due("rest: no PLAYER", x.rest(-1, 1), FeatherHall.UNKNOWN);
        CHECK.due("rest -1", x.rest(2, -1), FeatherHall.OUTSIDE);
        CHECK.due("rest 101", x.rest(2, 101), FeatherHall.OUTSIDE);
        CHECK.due("refused, nothing changed", x.of(2, 1), 0);
    }

    private static void slacks() {
        FeatherHall x = new FeatherHall();
        x.kind(3, 10, 0, 2);
        // MET in TICK 3 in CELL 8 and in TICK 4 in CELL 12; a PLAYER comes one CELL a TICK and reaches one.
        CHECK.due("from the far corner", x.slack(0, 3, 3, 0, 12), 2);
        CHECK.due("it is there", x.slack(0, 12, 3, 0, 12), 4);
        x.player(1, 1, 0);
        CHECK.due("does not come at all", x.slack(1, 3, 3, 0, 12), -3);
        CHECK.due("REACH is not more than FAR", x.slack(1, 8, 3, 0, 12), 0);
        x.player(2, 6, 0);
        x.run(2, 100);
        // STRIDE 3: no CELL in 3 TICKS, one in 4.
        CHECK.due("the greatest of both TICKS", x.slack(2, 15, 3, 0, 12), -2);
        x.rest(2, 100);
        CHECK.due("not TIRED", x.slack(2, 15, 3, 0, 12), -1);
        x.broken(8);
        CHECK.due("NET", x.slack(0, 0, 0, 12, 0), -100);
        int[][] unknown = {{-1, 0, 0, 0, 0}, {8, 0, 0, 0, 0}, {0, -1, 0, 0, 0}, {0, 16, 0, 0, 0}, {0, 0, -1, 0, 0},
            {0, 0, 4, 0, 0}, {0, 0, 0, -1, 0}, {0, 0, 0, 16, 0}, {0, 0, 0, 0, -1}, {0, 0, 0, 0, 16}};
        for (int[] v : unknown) {
            CHECK.due("no such PLAYER, CELL, KIND", x.slack(v[0], v[1], v[2], v[3], v[4]), -102);
        }
    }

    private static void strikes() {
        FeatherHall x = slowFeathers();
        x.player(0, 1, 0);
        CHECK.due("of several the least KIND, then t", x.strike(0, 0, 0, 0), 3);
        CHECK.due("its SLACK", x.strike(0, 0, 0, 1), -3);
        CHECK.due("from the middle", x.strike(0, 0, 5, 0), 3);
        CHECK.due("its SLACK", x.strike(0, 0, 5, 1), -2);
        CHECK.due("from a far corner", x.strike(0, 0, 15, 0), 0);
        x.player(0, 10, 0);
        x.kind(2, 60, 0, 1);
        CHECK.due("the quick KIND", x.strike(0, 0, 0, 0), 16 * 2 + 3);
        CHECK.due("its SLACK", x.strike(0, 0, 0, 1), -2);
        int[][] unknown = {{-1, 0, 0, 0}, {16, 0, 0, 0}, {0, -1, 0, 0}, {0, 8, 0, 0}, {0, 0, -1, 0}, {0, 0, 16, 2}};
        for (int[] v : unknown) {
            CHECK.due("no such CELL, PLAYER", x.strike(v[0], v[1], v[2], v[3]), -102);
        }
        CHECK.due("what -1", x.strike(0, 0, 0, -1), -103);
        CHECK.due("what 2", x.strike(0, 0, 0, 2), -103);
        x.broken(8);
        // From ROW 3 only a strike to ROW 2 or 3 comes over the net, and it lands in ROW 0.
        CHECK.due("NET does not count", x.slack(0, 0, 2, 12, 0), -100);
        int best = x.strike(12, 0, 12, 0);
        CHECK.holds("so the best is over the net", x.flight(best / 16, 12, best % 16, 1) != FeatherHall.NONE);
    }

    private static void stands() {
        FeatherHall x = slowFeathers();
        x.player(0, 1, 0);
        CHECK.due("the middle, of several the least", x.stand(0, 0, 0), 5);
        CHECK.due("its least SLACK", x.stand(0, 0, 1), -2);
        x.player(0, 1, 1);
        CHECK.due("with REACH 1", x.stand(0, 0, 1), -1);
        x.player(0, 1, 2);
        CHECK.due("with REACH 2", x.stand(0, 0, 1), 0);
        // One CELL a TICK: what goes farther takes longer, so the corner it comes from is as good as the middle.
        x.player(0, 10, 0);
        CHECK.due("time to run back", x.stand(0, 0, 0), 0);
        CHECK.due("its least SLACK", x.stand(0, 0, 1), 0);
        CHECK.due("no PLAYER -1", x.stand(-1, 0, 0), -102);
        CHECK.due("no PLAYER 8", x.stand(8, 0, 2), -102);
        CHECK.due("no CELL -1", x.stand(0, -1, 0), -102);
        CHECK.due("no CELL 16", x.stand(0, 16, 0), -102);
        CHECK.due("what -1", x.stand(0, 0, -1), -103);
        CHECK.due("what 2", x.stand(0, 0, 2), -103);
    }

    private static void rallies() {
        FeatherHall x = slowFeathers();
        x.player(1, 1, 0);
        x.player(2, 20, 2);
        for (int n = 1; n <= 4; n++) {
            CHECK.due("against one who can't run", x.wins(0, 1, 0, 0, n), 1);
            CHECK.due("against one who comes everywhere", x.wins(0, 2, 0, 0, n), 0);
        }
        int[] first = new int[6];
        for (int a = 0; a < 16; a++) {
            countFirstWon(a, first);
        }
        int[] want = {0, 184, 36, 12, 16, 8};
        for (int within = 1; within <= 5; within++) {
            CHECK.due("CELLS first won within " + within, first[within], want[within]);
        }
        int[][] unknown = {{-1, 0, 0, 0, 1}, {8, 8, 0, 0, 1}, {0, -1, 0, 0, 1}, {0, 8, 0, 0, 9}, {0, 1, -1, 0, 1},
            {0, 1, 16, 0, 1}, {0, 1, 0, -1, 1}, {0, 0, 0, 16, 1}};
        for (int[] v : unknown) {
            CHECK.due("no such PLAYER, CELL", x.wins(v[0], v[1], v[2], v[3], v[4]), FeatherHall.UNKNOWN);
        }
        CHECK.due("n 0", x.wins(0, 1, 0, 0, 0), FeatherHall.OUTSIDE);
        CHECK.due("n 5", x.wins(0, 1, 0, 0, 5), FeatherHall.OUTSIDE);
        CHECK.due("p is q", x.wins(1, 1, 0, 0, 1), FeatherHall.OUTSIDE);
    }

    /** PACE 3 and REACH 2 against 1 and 2: from some CELLS several strikes are needed. */
    private static void countFirstWon(int a, int[] first) {
        FeatherHall y = new FeatherHall();
        y.player(0, 3, 2);
        y.player(1, 1, 2);
        y.kind(0, 28, 55, 3);
        y.kind(1, 42, 12, 5);
        y.kind(2, 51, 4, 5);
        y.kind(3, 23, 19, 4);
        for (int c = 0; c < 16; c++) {
            int within = 1;
            while (within < 5 && y.wins(0, 1, a, c, within) == 0) {
                within++;
            }
            for (int n = within; n <= 4; n++) {
                CHECK.due("won within fewer, won within more", y.wins(0, 1, a, c, n), 1);
            }
            first[within]++;
        }
    }
}
