/** Section 2 and promises 6 to 11, each sentence that names an edge: at the edge and one beyond it. */
public final class PlayersEdgesTest {
    private static final Check CHECK = new Check("PlayersEdgesTest");

    public static void main(String[] args) {
        playersAtFirst();
        pace();
        reach();
        far();
        tiredAtMost();
        tiredAtLeast();
        runAndRestBeyond();
        strideIsCut();
        strideIsOneAtLeast();
        comesIsCut();
        lackingIsZeroAtLeast();
        greatestOfAllTicks();
        slackOfNet();
        greatestSlack();
        unknownSlack();
        bestStrikeOfSeveral();
        bestStrikeIsNotNet();
        whatOfStrike();
        bestStandOfSeveral();
        bestStandWithoutNet();
        whatOfStand();
        CHECK.finish();
    }

    /** A hall in which all KINDS are the same. */
    private static FeatherHall same(int speed, int drag, int meet) {
        FeatherHall x = new FeatherHall();
        for (int kind = 0; kind < 4; kind++) {
            x.kind(kind, speed, drag, meet);
        }
        return x;
    }

    /** "PLAYERS are 0 .. 7; each has a PACE (.. 10 at first), a REACH (.. 1) and is TIRED (.. 0)." */
    private static void playersAtFirst() {
        FeatherHall x = same(10, 0, 1);
        for (int player = 0; player < 8; player++) {
            CHECK.due("PACE of " + player, x.of(player, 0), 10);
            CHECK.due("TIRED of " + player, x.of(player, 1), 0);
            // TICK 1, one CELL far: of 3 CELLS one is run and one is in REACH.
            CHECK.due("REACH of " + player, x.slack(player, 12, 0, 0, 0), -1);
        }
        // 10 * 190 / 200 = 9.5; PACE 9 would be 8, PACE 11 would be 10.
        for (int player = 0; player < 8; player++) {
            x.run(player, 10);
            CHECK.due("PACE of " + player + " when TIRED", x.of(player, 0), 9);
            x.rest(player, 10);
            CHECK.due("PACE of " + player + " when RESTED", x.of(player, 0), 10);
        }
        CHECK.due("no PLAYER -1", x.of(-1, 0), FeatherHall.UNKNOWN);
        CHECK.due("no PLAYER 8", x.of(8, 0), FeatherHall.UNKNOWN);
        for (int player = 0; player < 8; player++) {
            CHECK.due("its own PACE", x.player(player, player + 1, 0), 1);
        }
        for (int player = 0; player < 8; player++) {
            CHECK.due("PACE of " + player, x.of(player, 0), player + 1);
        }
    }

    /** "A PACE (1 .. 20 ..)". */
    private static void pace() {
        FeatherHall x = new FeatherHall();
        CHECK.due("PACE 1", x.player(0, 1, 1), 1);
        CHECK.due("PACE 0", x.player(0, 0, 1), FeatherHall.OUTSIDE);
        CHECK.due("still 1", x.of(0, 0), 1);
        CHECK.due("PACE 20", x.player(0, 20, 1), 1);
        CHECK.due("PACE 21", x.player(0, 21, 1), FeatherHall.OUTSIDE);
        CHECK.due("still 20", x.of(0, 0), 20);
    }

    /** "A REACH (0 .. 2 ..)". */
    private static void reach() {
        FeatherHall x = same(10, 0, 1);
        CHECK.due("REACH 0", x.player(7, 1, 0), 1);
        CHECK.due("3 CELLS lack", x.slack(7, 15, 0, 0, 0), -3);
        CHECK.due("REACH -1", x.player(7, 1, -1), FeatherHall.OUTSIDE);
        CHECK.due("still 3 lack", x.slack(7, 15, 0, 0, 0), -3);
        CHECK.due("REACH 2", x.player(7, 1, 2), 1);
        CHECK.due("1 CELL lacks", x.slack(7, 15, 0, 0, 0), -1);
        CHECK.due("REACH 3", x.player(7, 1, 3), FeatherHall.OUTSIDE);
        CHECK.due("still 1 lacks", x.slack(7, 15, 0, 0, 0), -1);
        CHECK.due("REACH 3 with a new PACE", x.player(7, 20, 3), FeatherHall.OUTSIDE);
        CHECK.due("PACE is still 1", x.of(7, 0), 1);
    }

    /** "FAR are two CELLS of a side by the greater of the differences of ROW and COL." */
    private static void far() {
        FeatherHall x = same(60, 0, 1);
        x.player(0, 1, 0);
        int[][] pairs = {{0, 0, 0}, {0, 1, 1}, {0, 4, 1}, {0, 5, 1}, {0, 2, 2}, {0, 6, 2}, {0, 9, 2}, {0, 3, 3},
            {0, 12, 3}, {0, 15, 3}, {0, 7, 3}, {0, 13, 3}, {5, 10, 1}, {5, 15, 2}, {3, 12, 3}, {3, 4, 3}, {6, 12, 2}};
        for (int[] pair : pairs) {
            CHECK.due(pair[0] + " to " + pair[1], x.slack(0, pair[0], 0, 0, pair[1]), -pair[2]);
            CHECK.due(pair[1] + " to " + pair[0], x.slack(0, pair[1], 0, 0, pair[0]), -pair[2]);
        }
    }

    /** "TIRED grows by RUNNING: CELLS run": "100 at most". */
    private static void tiredAtMost() {
        FeatherHall x = new FeatherHall();
        CHECK.due("99", x.run(3, 99), 99);
        CHECK.due("just 100", x.run(3, 1), 100);
        CHECK.due("100 and 1", x.run(3, 1), 100);
        CHECK.due("100 and 100", x.run(3, 100), 100);
        CHECK.due("one less", x.rest(3, 1), 99);
        CHECK.due("99 and 2", x.run(3, 2), 100);
        CHECK.due("nothing of it is kept: 99", x.rest(3, 1), 99);
        CHECK.due("of tells it", x.of(3, 1), 99);
        CHECK.due("at once", x.run(4, 100), 100);
    }

    /** "RESTED it becomes less (0 at least". */
    private static void tiredAtLeast() {
        FeatherHall x = new FeatherHall();
        CHECK.due("not TIRED, rests 0", x.rest(3, 0), 0);
        CHECK.due("not TIRED, rests 100", x.rest(3, 100), 0);
        CHECK.due("nothing of it is kept", x.run(3, 1), 1);
        CHECK.due("just 0", x.rest(3, 1), 0);
        x.run(3, 1);
        CHECK.due("one beyond", x.rest(3, 2), 0);
        x.run(3, 100);
        CHECK.due("100 to 0", x.rest(3, 100), 0);
        CHECK.due("of tells it", x.of(3, 1), 0);
    }

    /** "So many CELLS (0 .. 100)", "by so much (0 .. 100)". */
    private static void runAndRestBeyond() {
        FeatherHall x = new FeatherHall();
        x.run(5, 40);
        int[] beyond = {-1, 101, Integer.MIN_VALUE, Integer.MAX_VALUE};
        for (int value : beyond) {
            CHECK.due("run " + value, x.run(5, value), FeatherHall.OUTSIDE);
            CHECK.due("still 40", x.of(5, 1), 40);
            CHECK.due("rest " + value, x.rest(5, value), FeatherHall.OUTSIDE);
            CHECK.due("still 40", x.of(5, 1), 40);
        }
        CHECK.due("run 0", x.run(5, 0), 40);
        CHECK.due("rest 0", x.rest(5, 0), 40);
    }

    /** "STRIDE is PACE times (200 less TIRED), by 200, cut". */
    private static void strideIsCut() {
        // PACE, TIRED, STRIDE.
        int[][] rows = {{10, 0, 10}, {10, 1, 9}, {10, 19, 9}, {10, 20, 9}, {10, 21, 8}, {10, 100, 5}, {20, 1, 19},
            {20, 9, 19}, {20, 10, 19}, {20, 11, 18}, {20, 100, 10}, {19, 100, 9}, {4, 99, 2}, {4, 100, 2}};
        for (int[] row : rows) {
            FeatherHall x = new FeatherHall();
            x.player(6, row[0], 1);
            x.run(6, row[1]);
            CHECK.due("PACE " + row[0] + ", TIRED " + row[1], x.of(6, 0), row[2]);
            FeatherHall y = new FeatherHall();
            y.run(6, row[1]);
            y.player(6, row[0], 1);
            CHECK.due("TIRED " + row[1] + ", then PACE " + row[0], y.of(6, 0), row[2]);
        }
    }

    /** "1 at least". */
    private static void strideIsOneAtLeast() {
        int[][] rows = {{1, 0}, {1, 1}, {1, 99}, {1, 100}, {2, 99}, {2, 100}, {3, 100}};
        for (int[] row : rows) {
            FeatherHall x = new FeatherHall();
            x.player(0, row[0], 0);
            x.run(0, row[1]);
            CHECK.due("PACE " + row[0] + ", TIRED " + row[1], x.of(0, 0), 1);
        }
        // SPEED 10, DRAG 60: LENGTH 30 in 10 TICKS, in which STRIDE 1 is one CELL.
        FeatherHall x = same(10, 60, 1);
        x.player(0, 1, 0);
        x.run(0, 100);
        CHECK.due("it comes one CELL in 10 TICKS", x.slack(0, 8, 0, 0, 8), 1);
    }

    /** "In n TICKS a PLAYER comes n STRIDE by 10, cut, CELLS far." */
    private static void comesIsCut() {
        FeatherHall x = same(10, 0, 1);
        // By STRIDE: how far it comes in 1, 2, 3 and 4 TICKS, in which the feather lands straight across.
        int[][] rows = {{1, 0, 0, 0, 0}, {2, 0, 0, 0, 0}, {3, 0, 0, 0, 1}, {4, 0, 0, 1, 1}, {5, 0, 1, 1, 2},
            {9, 0, 1, 2, 3}, {10, 1, 2, 3, 4}, {11, 1, 2, 3, 4}, {15, 1, 3, 4, 6}, {19, 1, 3, 5, 7}, {20, 2, 4, 6, 8}};
        for (int[] row : rows) {
            x.player(2, row[0], 1);
            for (int n = 1; n <= 4; n++) {
                int t = 4 * (n - 1);
                CHECK.due("STRIDE " + row[0] + " in " + n, x.slack(2, t, 0, 0, t), row[n]);
            }
        }
        // LENGTH 30 in 9 TICKS (12 4 2 2 ..) and in 10 (10 4 2 2 ..).
        FeatherHall y = same(12, 60, 1);
        y.player(2, 1, 1);
        CHECK.due("STRIDE 1 in 9", y.slack(2, 8, 0, 0, 8), 0);
        y.kind(0, 10, 60, 1);
        CHECK.due("STRIDE 1 in 10", y.slack(2, 8, 0, 0, 8), 1);
    }

    /** "(FAR to where THE FEATHER is then, less REACH, 0 at least)". */
    private static void lackingIsZeroAtLeast() {
        FeatherHall x = same(10, 0, 1);
        int[] cells = {0, 5, 10, 15};
        for (int reach = 0; reach <= 2; reach++) {
            x.player(1, 1, reach);
            x.player(2, 10, reach);
            for (int far = 0; far <= 3; far++) {
                int lacking = far <= reach ? 0 : far - reach;
                CHECK.due("FAR " + far + ", REACH " + reach, x.slack(1, cells[far], 0, 0, 0), -lacking);
                CHECK.due("one CELL run", x.slack(2, cells[far], 0, 0, 0), 1 - lacking);
            }
        }
    }

    /** "Of all TICKS n in which it can be MET, the greatest". */
    private static void greatestOfAllTicks() {
        // From 0 to 12, over CELLS 0, 4, 8, 12 in TICKS 1 to 4; STRIDE 1 and REACH 0: the nearest of them.
        int[][] slacks = {{-3, -2, -1, 0}, {-2, -1, 0, 0}, {-1, 0, 0, 0}, {0, 0, 0, 0}};
        for (int meet = 1; meet <= 4; meet++) {
            FeatherHall x = same(10, 0, meet);
            x.player(0, 1, 0);
            for (int row = 0; row < 4; row++) {
                CHECK.due("MEET " + meet + " from ROW " + row, x.slack(0, 4 * row, 0, 0, 12), slacks[meet - 1][row]);
            }
        }
        // 11 8 6 4 3 2 2 2 2: over 4 in TICK 4, over 8 from TICK 5 on, in 12 in TICK 9.
        int[][] ofMany = {{-2, -1, 0, 0}, {-1, 0, 0, 0}};
        for (int meet = 5; meet <= 6; meet++) {
            FeatherHall x = same(11, 20, meet);
            x.player(0, 1, 0);
            for (int row = 0; row < 4; row++) {
                CHECK.due("MEET " + meet + " from ROW " + row, x.slack(0, 4 * row, 0, 0, 12), ofMany[meet - 5][row]);
            }
        }
        // STRIDE 20: 2 CELLS a TICK, so the last TICK is the best though it is farther.
        FeatherHall y = same(10, 0, 4);
        y.player(0, 20, 0);
        CHECK.due("the last TICK", y.slack(0, 0, 0, 0, 12), 8 - 3);
    }

    /** "For NET none": "-100: NET". */
    private static void slackOfNet() {
        FeatherHall x = same(60, 0, 6);
        x.broken(5);
        CHECK.due("just over the net", x.slack(0, 0, 0, 12, 4), 1);
        x.broken(6);
        CHECK.due("just not", x.slack(0, 0, 0, 12, 4), -100);
        for (int player = 0; player < 8; player++) {
            x.player(player, 20, 2);
            CHECK.due("whoever it is", x.slack(player, player, 0, 12, 4), -100);
        }
        x.broken(5);
        CHECK.due("over the net again", x.slack(0, 0, 0, 12, 4), 2);
    }

    /** The longest FLIGHT takes 38 TICKS: 76 CELLS with STRIDE 20. */
    private static void greatestSlack() {
        FeatherHall x = same(10, 60, 1);
        x.player(0, 20, 0);
        CHECK.due("76", x.slack(0, 15, 0, 12, 15), 76);
        CHECK.due("3 less", x.slack(0, 12, 0, 12, 15), 73);
    }

    /** "UNKNOWN answers -102": any of the five, also for a FLIGHT that is NET. */
    private static void unknownSlack() {
        int[] most = {7, 15, 3, 15, 15};
        for (int broken = 0; broken <= 8; broken += 8) {
            FeatherHall x = new FeatherHall();
            x.broken(broken);
            int whole = broken == 0 ? 1 : -100;
            CHECK.due("all as told", x.slack(0, 0, 0, 0, 0), whole);
            for (int i = 0; i < 5; i++) {
                for (int end = 0; end < 2; end++) {
                    int[] v = new int[5];
                    v[i] = end == 0 ? -1 : most[i] + 1;
                    CHECK.due(Calls.text("slack", v), x.slack(v[0], v[1], v[2], v[3], v[4]), -102);
                }
                int[] v = new int[5];
                v[i] = most[i];
                CHECK.holds(Calls.text("slack", v) + " is known", x.slack(v[0], v[1], v[2], v[3], v[4]) != -102);
            }
        }
    }

    /** "Of several the least KIND, then t." */
    private static void bestStrikeOfSeveral() {
        FeatherHall x = same(10, 0, 1);
        x.player(0, 1, 2);
        CHECK.due("all alike: KIND 0, t 0", x.strike(0, 0, 5, 0), 0);
        CHECK.due("SLACK 0", x.strike(0, 0, 5, 1), 0);
        x.player(0, 1, 0);
        CHECK.due("ROW 3 is farthest from 1: t 12 of 12 .. 15", x.strike(0, 0, 1, 0), 12);
        CHECK.due("COL 3 is farthest from 4: t 3 of 3, 7, 11, 15", x.strike(0, 0, 4, 0), 3);
        // KIND 0 leaves -2 to 12 alone (4 TICKS, STRIDE 4); the others leave it to 3 (1 TICK): the KIND tells first.
        FeatherHall y = same(30, 0, 2);
        y.kind(0, 10, 0, 1);
        y.player(0, 4, 0);
        CHECK.due("KIND 0 to 12", y.slack(0, 1, 0, 0, 12), -2);
        CHECK.due("KIND 0 to 3", y.slack(0, 1, 0, 0, 3), -1);
        CHECK.due("KIND 1 to 3", y.slack(0, 1, 1, 0, 3), -2);
        CHECK.due("the least KIND, though not the least t", y.strike(0, 0, 1, 0), 12);
        CHECK.due("SLACK -2", y.strike(0, 0, 1, 1), -2);
        // The greatest KIND, if it alone leaves the least.
        FeatherHall z = same(10, 0, 6);
        z.kind(3, 60, 0, 1);
        z.player(0, 10, 0);
        CHECK.due("KIND 3", z.strike(0, 0, 0, 0), 16 * 3 + 3);
        CHECK.due("SLACK -2", z.strike(0, 0, 0, 1), 1 - 3);
    }

    /** "Of all KINDS and CELLS t that are not NET": a NET has no SLACK, not the least. */
    private static void bestStrikeIsNotNet() {
        for (int broken = 0; broken <= 8; broken++) {
            FeatherHall x = same(60, 0, 1);
            x.broken(broken);
            for (int a = 0; a < 16; a++) {
                int best = x.strike(a, 0, 15, 0);
                CHECK.holds("over the net from " + a, x.flight(best / 16, a, best % 16, 1) != FeatherHall.NONE);
                CHECK.due("its SLACK", x.strike(a, 0, 15, 1), x.slack(0, 15, best / 16, a, best % 16));
            }
        }
        FeatherHall x = same(60, 0, 1);
        x.player(0, 1, 0);
        x.broken(8);
        // BROKEN 8 from ROW 3: ROW 2 is the first that comes over (40 of 60), and it lands in ROW 0.
        CHECK.due("12 to 4 is NET", x.flight(0, 12, 4, 1), FeatherHall.NONE);
        CHECK.due("12 to 8 is not", x.flight(0, 12, 8, 1), 0);
        CHECK.due("so 8 is the first", x.strike(12, 0, 12, 0), 8);
        CHECK.due("3 ROWS lack", x.strike(12, 0, 12, 1), -3);
    }

    /** "(What 0), SLACK by it (1)": "-103 OUTSIDE". */
    private static void whatOfStrike() {
        FeatherHall x = same(10, 0, 1);
        x.player(0, 1, 0);
        int[] want = {-103, 3, -3, -103};
        for (int what = -1; what <= 2; what++) {
            CHECK.due("what " + what, x.strike(0, 0, 0, what), want[what + 1]);
        }
        // In 4 TICKS to 3, which leaves PACE 10 and REACH 1 a SLACK of 4 less 2.
        CHECK.due("from 15 against PLAYER 7 in 15", x.strike(15, 7, 15, 0), 3);
        CHECK.due("its SLACK", x.strike(15, 7, 15, 1), 2);
        int[][] unknown = {{-1, 0, 0}, {16, 0, 0}, {0, -1, 0}, {0, 8, 0}, {0, 0, -1}, {0, 0, 16}};
        for (int[] v : unknown) {
            for (int what = -1; what <= 2; what++) {
                CHECK.due("UNKNOWN first", x.strike(v[0], v[1], v[2], what), -102);
            }
        }
    }

    /** "The CELL with the greatest of its least SLACKS .. of several the least". */
    private static void bestStandOfSeveral() {
        FeatherHall x = same(10, 0, 1);
        x.player(0, 1, 0);
        CHECK.due("5 of 5, 6, 9, 10", x.stand(0, 0, 0), 5);
        CHECK.due("-2 there", x.stand(0, 0, 1), -2);
        CHECK.due("6 is as good", x.strike(0, 0, 6, 1), -2);
        CHECK.due("4 is not", x.strike(0, 0, 4, 1), -3);
        // To ROW 0 in 1 TICK, ROW 3 in 4: with STRIDE 10 no CELL is better than 0.
        x.player(0, 10, 0);
        CHECK.due("0 of several", x.stand(0, 0, 0), 0);
        CHECK.due("0 there", x.stand(0, 0, 1), 0);
        CHECK.due("not below in 5 either", x.strike(0, 0, 5, 1), 0);
        // 2 CELLS a TICK and REACH 2: the soonest is the least, and 0 is one of nine in which it lacks nothing.
        x.player(0, 20, 2);
        CHECK.due("0 of nine", x.stand(0, 0, 0), 0);
        CHECK.due("2 there", x.stand(0, 0, 1), 2);
        CHECK.due("2 in the last of them", x.strike(0, 0, 10, 1), 2);
        CHECK.due("1 beyond", x.strike(0, 0, 15, 1), 1);
    }

    /** "For all strikes from a that are not NET". */
    private static void bestStandWithoutNet() {
        // BROKEN 8 from ROW 3: all that comes over lands in ROW 0; whole, the middle is best.
        FeatherHall x = same(60, 0, 1);
        x.player(0, 1, 0);
        CHECK.due("whole: 5", x.stand(0, 12, 0), 5);
        CHECK.due("whole: -2", x.stand(0, 12, 1), -2);
        x.broken(8);
        // From 12 it lands over COLS 0, 1 and 2: CELL 1 is one from each.
        CHECK.due("short: 1", x.stand(0, 12, 0), 1);
        CHECK.due("short: -1", x.stand(0, 12, 1), -1);
    }

    /** "The CELL (what 0), its least SLACK (1 ..)": "-103 OUTSIDE". */
    private static void whatOfStand() {
        FeatherHall x = same(10, 0, 1);
        x.player(7, 1, 0);
        int[] want = {-103, 5, -2, -103};
        for (int what = -1; what <= 2; what++) {
            CHECK.due("what " + what, x.stand(7, 0, what), want[what + 1]);
            CHECK.due("no PLAYER -1", x.stand(-1, 0, what), -102);
            CHECK.due("no PLAYER 8", x.stand(8, 0, what), -102);
            CHECK.due("no CELL -1", x.stand(7, -1, what), -102);
            CHECK.due("no CELL 16", x.stand(7, 16, what), -102);
        }
        CHECK.due("against one in 15", x.stand(7, 15, 0), 5);
    }
}
