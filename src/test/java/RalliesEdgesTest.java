/** Section 2's RALLY and promise 12, each part of the sentences: cases in which that part alone turns the answer. */
public final class RalliesEdgesTest {
    private static final Check CHECK = new Check("RalliesEdgesTest");

    /** BROKEN; PACE, REACH, TIRED of p and of q; then SPEED, DRAG, MEET of the KINDS, the last told for all further. */
    private static final int[]
        ALIKE = {0, 20, 0, 0, 10, 2, 50, 50, 50, 6},
        QUICK = {0, 8, 2, 0, 1, 2, 0, 60, 20, 3},
        SHORT = {5, 10, 0, 0, 1, 1, 50, 40, 55, 1, 10, 0, 4, 30, 10, 6, 40, 55, 1},
        SLOW = {4, 1, 1, 0, 6, 1, 0, 55, 55, 1, 55, 25, 6, 25, 35, 4, 30, 25, 6},
        BROKEN = {6, 17, 0, 0, 8, 1, 0, 60, 50, 1, 40, 45, 6, 20, 30, 4, 35, 60, 4},
        LONG = {3, 4, 2, 0, 1, 1, 50, 55, 60, 3, 40, 50, 4, 30, 10, 3, 45, 10, 6},
        DEEP = {0, 3, 2, 0, 1, 2, 0, 28, 55, 3, 42, 12, 5, 51, 4, 5, 23, 19, 4};

    public static void main(String[] args) {
        notMetByOne();
        netWinsNothing();
        strideNotPace();
        withinFewer();
        firstTickOfQ();
        whereToPComes();
        allStrikesOfQ();
        netOfQ();
        whereToQComes();
        whereItMet();
        cellZero();
        strikeZero();
        rowsAside();
        withinOneLess();
        numberOfStrikes();
        unlike();
        nothingIsRun();
        CHECK.finish();
    }

    private static FeatherHall hall(int p, int q, int... setting) {
        FeatherHall x = new FeatherHall();
        x.broken(setting[0]);
        x.player(p, setting[1], setting[2]);
        x.run(p, setting[3]);
        x.player(q, setting[4], setting[5]);
        x.run(q, setting[6]);
        for (int kind = 0; kind < 4; kind++) {
            int at = Math.min(7 + 3 * kind, setting.length - 3);
            x.kind(kind, setting[at], setting[at + 1], setting[at + 2]);
        }
        return x;
    }

    private static void due(String why, int[] setting, int a, int c, int n, int want) {
        int[][] pairs = {{0, 1}, {7, 0}, {3, 6}};
        for (int[] pair : pairs) {
            FeatherHall x = hall(pair[0], pair[1], setting);
            CHECK.due(why + Calls.text(": wins", pair[0], pair[1], a, c, n), x.wins(pair[0], pair[1], a, c, n), want);
        }
    }

    /** "p WINS within 1, if some strike (not NET) is such that q does not MEET it": MEETS "if SLACK is 0 or more". */
    private static void notMetByOne() {
        // 10 in each TICK, MET where it lands, STRIDE 1: SLACK is REACH less FAR, 0 at most.
        int[] still = {0, 10, 1, 0, 1, 2, 0, 10, 0, 1};
        FeatherHall x = hall(0, 1, still);
        CHECK.due("least SLACK 0", x.strike(0, 1, 5, 1), 0);
        due("least SLACK 0", still, 0, 5, 1, 0);
        CHECK.due("least SLACK -1", x.strike(0, 1, 4, 1), -1);
        due("least SLACK -1", still, 0, 4, 1, 1);
        int[] asAtFirst = {0, 10, 1, 0, 10, 1, 0, 60, 30, 2, 20, 5, 3, 30, 20, 2, 40, 15, 3};
        for (int cells = 0; cells < 100; cells++) {
            FeatherHall y = hall(0, 1, asAtFirst);
            int a = cells * 7 % 16;
            int c = cells * 3 % 16;
            int wins = y.strike(a, 1, c, 1) < 0 ? 1 : 0;
            CHECK.due("by its least SLACK, " + a + " against " + c, y.wins(0, 1, a, c, 1), wins);
        }
    }

    /** "(Not NET)": a strike that is NET wins nothing, in any number. */
    private static void netWinsNothing() {
        CHECK.due("0 to 0 is NET", hall(0, 1, SHORT).flight(0, 0, 0, 1), FeatherHall.NONE);
        due("a NET is not MET, yet wins not", SHORT, 0, 5, 1, 0);
        for (int n = 1; n <= 4; n++) {
            due("nor in more", SHORT, 9, 1, n, 0);
        }
    }

    /** STRIDES are those of TIRED PLAYERS. */
    private static void strideNotPace() {
        int[] fresh = ALIKE.clone();
        fresh[6] = 0;
        due("q is TIRED", ALIKE, 0, 0, 1, 1);
        due("q is not", fresh, 0, 0, 1, 0);
    }

    /** "p WINS within n above 1, if it does within n less 1". */
    private static void withinFewer() {
        for (int n = 1; n <= 4; n++) {
            due("won at once", SHORT, 0, 2, n, 1);
            due("won at once", SHORT, 0, 0, n, 1);
        }
    }

    /** "That q MEETS in TICK m, in a CELL d": in the first TICK in which it can. */
    private static void firstTickOfQ() {
        for (int n = 1; n <= 4; n++) {
            due("q does not wait for it", ALIKE, 9, 1, n, 0);
            due("q does not wait for it", QUICK, 4, 5, n, 0);
        }
    }

    /** "A CELL b to which p comes in m TICKS (FAR from a at most)": all of m, no more, and without REACH. */
    private static void whereToPComes() {
        due("one TICK fewer were too few", ALIKE, 0, 5, 3, 1);
        due("b may be elsewhere than a", SHORT, 8, 1, 2, 1);
        for (int n = 1; n <= 4; n++) {
            due("one TICK more were enough", QUICK, 0, 5, n, 0);
            due("REACH is not run", SLOW, 0, 5, n, 0);
        }
    }

    /** "Whatever strike that is not NET it takes .. p MEETS it". */
    private static void allStrikesOfQ() {
        for (int n = 1; n <= 4; n++) {
            due("one that p does not MEET is enough", SLOW, 0, 5, n, 0);
            due("one that p does not MEET is enough", ALIKE, 9, 1, n, 0);
        }
    }

    /** "Whatever strike that is not NET": those of q that are NET it can't take. */
    private static void netOfQ() {
        due("q's NETS do not save it", SHORT, 0, 5, 2, 1);
        due("q's NETS do not save it", SLOW, 5, 5, 2, 1);
    }

    /** "Whatever CELL it comes to till p MEETS that": by its STRIDE, from d, no REACH. */
    private static void whereToQComes() {
        for (int n = 1; n <= 4; n++) {
            due("q does not stay in d", BROKEN, 0, 5, n, 0);
            due("q comes from d, not from c", ALIKE, 12, 0, n, 0);
        }
        due("one TICK more were too many", SLOW, 5, 5, 2, 1);
        due("not to any CELL", SHORT, 0, 5, 2, 1);
    }

    /** "From there (p where it MET, q in that CELL)": "in the first TICK in which that difference is 0 or more". */
    private static void whereItMet() {
        due("p MEETS it in the first TICK", SHORT, 1, 5, 2, 1);
        for (int n = 1; n <= 4; n++) {
            due("p is not in b then", SHORT, 9, 1, n, 0);
        }
    }

    /** CELL 0 is a CELL as any: for d, for b and for c. */
    private static void cellZero() {
        due("q MEETS in 0", new int[] {0, 8, 2, 0, 4, 2, 0, 20, 10, 3, 55, 0, 3}, 3, 5, 2, 1);
        due("p comes to 0", new int[] {0, 6, 2, 0, 1, 2, 0, 30, 50, 3, 30, 20, 2}, 0, 1, 2, 1);
        due("q stands in 0", new int[] {0, 2, 2, 0, 8, 0, 0, 10, 50, 4, 25, 30, 3}, 12, 0, 2, 1);
        due("0 alone is left, and does not hold", new int[] {0, 8, 0, 0, 4, 1, 0, 25, 25, 3, 15, 0, 4}, 8, 1, 2, 0);
    }

    /** KIND 0 to CELL 0 is a strike as any, of p and of q. */
    private static void strikeZero() {
        due("p needs it", new int[] {0, 9, 2, 0, 2, 2, 0, 35, 60, 4, 45, 10, 2}, 11, 1, 2, 1);
        due("q takes it", new int[] {0, 10, 0, 0, 9, 1, 0, 40, 0, 4, 10, 40, 6}, 8, 1, 2, 0);
    }

    /** FAR goes by ROWS as by COLS: no CELL farther by ROW is within it. */
    private static void rowsAside() {
        due("from ROW 3", new int[] {0, 19, 0, 0, 5, 1, 0, 15, 20, 4, 15, 20, 4, 45, 15, 3}, 15, 6, 2, 1);
        due("from ROW 2", new int[] {0, 20, 0, 0, 6, 1, 0, 15, 35, 6, 40, 20, 1}, 8, 5, 2, 1);
        due("from ROW 3", new int[] {4, 10, 0, 0, 9, 1, 0, 50, 10, 5, 50, 10, 5, 50, 40, 6}, 13, 1, 2, 0);
    }

    /** "WINS within n less 1": not at once alone. */
    private static void withinOneLess() {
        int[] want = {0, 0, 1, 1};
        for (int n = 1; n <= 4; n++) {
            due("three strikes", LONG, 12, 5, n, want[n - 1]);
        }
    }

    /** "Whether p WINS within n (1 .. 4)": the same rally with one strike fewer is not won. */
    private static void numberOfStrikes() {
        int[][] cells = {{0, 0}, {5, 5}, {8, 5}, {1, 5}, {0, 5}};
        for (int first = 1; first <= 5; first++) {
            for (int n = 1; n <= 4; n++) {
                int[] from = cells[first - 1];
                due("first within " + first + " (5: never)", DEEP, from[0], from[1], n, n >= first ? 1 : 0);
            }
        }
        for (int[] from : cells) {
            due("n 0", DEEP, from[0], from[1], 0, FeatherHall.OUTSIDE);
            due("n 5", DEEP, from[0], from[1], 5, FeatherHall.OUTSIDE);
        }
        FeatherHall x = hall(0, 1, DEEP);
        CHECK.due("4 behind 1, 2 and 3", x.wins(0, 1, 1, 5, 1) + x.wins(0, 1, 1, 5, 2) + x.wins(0, 1, 1, 5, 3), 0);
        CHECK.due("within 4", x.wins(0, 1, 1, 5, 4), 1);
        CHECK.due("and 3 behind 4", x.wins(0, 1, 1, 5, 3), 0);
        CHECK.due("turned about", x.wins(1, 0, 5, 1, 4), hall(1, 0, turned(DEEP)).wins(1, 0, 5, 1, 4));
    }

    private static int[] turned(int[] setting) {
        int[] turned = setting.clone();
        for (int i = 1; i <= 3; i++) {
            turned[i] = setting[i + 3];
            turned[i + 3] = setting[i];
        }
        return turned;
    }

    /** "PLAYERS p and q (unlike)": "OUTSIDE: n, or p is q". */
    private static void unlike() {
        FeatherHall x = new FeatherHall();
        for (int p = 0; p < 8; p++) {
            for (int q = 0; q < 8; q++) {
                int got = x.wins(p, q, 5, 5, 1);
                if (p == q) {
                    CHECK.due("p is q", got, FeatherHall.OUTSIDE);
                } else {
                    CHECK.due("all PLAYERS are alike at first", got, x.wins(0, 1, 5, 5, 1));
                }
            }
        }
    }

    /** It is only looked at: no one has RUN by it. */
    private static void nothingIsRun() {
        FeatherHall x = hall(0, 1, ALIKE);
        x.wins(0, 1, 0, 5, 4);
        CHECK.due("p", x.of(0, 1), 0);
        CHECK.due("q", x.of(1, 1), 50);
        CHECK.due("STRIDE of q", x.of(1, 0), 7);
    }
}
