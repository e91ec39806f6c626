/** Section 1 and promises 2 to 5, each sentence that names an edge: at the edge and one beyond it. */
public final class FlightsEdgesTest {
    private static final Check CHECK = new Check("FlightsEdgesTest");

    public static void main(String[] args) {
        cells();
        kindsOfStrikes();
        kindsAtFirst();
        speed();
        drag();
        meet();
        brokenAtMost();
        rowsAndLength();
        wholeIsCut();
        firstTickGoesSpeed();
        laterTicksAreCut();
        brokenSlows();
        twoAtLeast();
        wholeAtMost();
        firstTickWithGoneWhole();
        aboveRowOfA();
        rowsOnAreCut();
        colIsCutTowardsA();
        net();
        lastMeetTicks();
        asFarAsOverTheNet();
        whatOfFlight();
        behindTicks();
        changedBehindAsking();
        CHECK.finish();
    }

    /** A hall in which all KINDS are the same. */
    private static FeatherHall same(int speed, int drag, int meet) {
        FeatherHall x = new FeatherHall();
        for (int kind = 0; kind < 4; kind++) {
            x.kind(kind, speed, drag, meet);
        }
        return x;
    }

    private static FeatherHall same(int speed, int drag, int meet, int broken) {
        FeatherHall x = same(speed, drag, meet);
        x.broken(broken);
        return x;
    }

    private static void lands(String why, FeatherHall x, int a, int t, int want) {
        CHECK.due(why + ": lands, " + a + " to " + t, x.flight(0, a, t, 0), want);
    }

    private static void met(String why, FeatherHall x, int a, int t, int want) {
        CHECK.due(why + ": first MET, " + a + " to " + t, x.flight(0, a, t, 2), want);
    }

    private static void over(String why, FeatherHall x, int a, int t, int n, int want) {
        CHECK.due(why + ": over, " + a + " to " + t + " behind " + n, x.over(0, a, t, n), want);
    }

    /** "Each side of THE COURT has CELLS 4 ROW + COL (ROW 0 at the net .. 3, COL 0 .. 3 ..)": 0 .. 15. */
    private static void cells() {
        for (int a = 0; a < 16; a++) {
            FeatherHall x = new FeatherHall();
            for (int strike = 0; strike < 64; strike++) {
                int t = strike % 16;
                CHECK.due("a whole feather lands in t", x.flight(strike / 16, a, t, 1), t);
            }
            CHECK.due("from -1", x.flight(0, -1, a, 0), FeatherHall.UNKNOWN);
            CHECK.due("from 16", x.flight(0, 16, a, 0), FeatherHall.UNKNOWN);
            CHECK.due("to -1", x.flight(0, a, -1, 0), FeatherHall.UNKNOWN);
            CHECK.due("to 16", x.flight(0, a, 16, 0), FeatherHall.UNKNOWN);
            CHECK.due("over, from -1", x.over(0, -1, a, 1), FeatherHall.UNKNOWN);
            CHECK.due("over, from 16", x.over(0, 16, a, 1), FeatherHall.UNKNOWN);
            CHECK.due("over, to -1", x.over(0, a, -1, 1), FeatherHall.UNKNOWN);
            CHECK.due("over, to 16", x.over(0, a, 16, 1), FeatherHall.UNKNOWN);
        }
    }

    /** "KINDS of strikes are 0 .. 3". */
    private static void kindsOfStrikes() {
        FeatherHall x = new FeatherHall();
        int[] beyond = {-1, 4, Integer.MIN_VALUE, Integer.MAX_VALUE};
        for (int kind : beyond) {
            CHECK.due("kind " + kind, x.kind(kind, 10, 0, 1), FeatherHall.UNKNOWN);
            CHECK.due("kind " + kind + ", wrong numbers too", x.kind(kind, 9, 61, 7), FeatherHall.UNKNOWN);
            CHECK.due("flight " + kind, x.flight(kind, 0, 0, 0), FeatherHall.UNKNOWN);
            CHECK.due("flight " + kind + ", wrong what too", x.flight(kind, 0, 0, 3), FeatherHall.UNKNOWN);
            CHECK.due("over " + kind, x.over(kind, 0, 0, 1), FeatherHall.UNKNOWN);
            CHECK.due("over " + kind + ", wrong n too", x.over(kind, 0, 0, 61), FeatherHall.UNKNOWN);
        }
        int[] landing = {2, 5, 4, 3};
        for (int kind = 0; kind < 4; kind++) {
            CHECK.due("KIND " + kind + " is as before", x.flight(kind, 12, 15, 0), landing[kind]);
        }
    }

    /**
     * "At first SPEED 60, 20, 30, 40, DRAG 30, 5, 20, 15, MEET 2, 3, 2, 3": one more or less of each would show here.
     * (DRAG 30 of KIND 0 can't show: two TICKS are always enough; nor could more MEET of KINDS 0 and 3.)
     */
    private static void kindsAtFirst() {
        FeatherHall x = new FeatherHall();
        // LENGTH 60 in one TICK; of 85 with 60 gone 7 * 60 / 85 = 4.9 ROWS.
        CHECK.due("KIND 0, SPEED not 59", x.flight(0, 4, 14, 0), 1);
        CHECK.due("KIND 0, SPEED not 61", x.over(0, 12, 15, 1), 2);
        CHECK.due("KIND 0, 60 and 42 are 85 and more", x.flight(0, 12, 15, 0), 2);
        CHECK.due("KIND 0, MEET not 1", x.flight(0, 8, 15, 2), 1);
        // 20 19 18: 20 of 20, 39 of 40, 57 of 55.
        CHECK.due("KIND 1, SPEED not 19", x.flight(1, 0, 4, 0), 1);
        CHECK.due("KIND 1, SPEED not 21", x.flight(1, 0, 12, 0), 3);
        CHECK.due("KIND 1, DRAG not 6", x.flight(1, 0, 15, 0), 3);
        CHECK.due("KIND 1, MEET not 2", x.flight(1, 0, 12, 2), 1);
        CHECK.due("KIND 1, MEET not 4", x.flight(1, 8, 15, 2), 3);
        // 30 24 19: 30 of 30, 54 of 55; of 75 with 54 gone 7 * 54 / 75 = 5.04 ROWS.
        CHECK.due("KIND 2, SPEED not 29", x.flight(2, 0, 8, 0), 1);
        CHECK.due("KIND 2, SPEED not 31", x.flight(2, 0, 15, 0), 3);
        CHECK.due("KIND 2, DRAG not 21", x.over(2, 12, 13, 2), 4);
        CHECK.due("KIND 2, MEET not 1", x.flight(2, 0, 12, 2), 1);
        CHECK.due("KIND 2, MEET not 3", x.flight(2, 0, 15, 2), 2);
        // 40 34: 40 of 40, 74 of 75.
        CHECK.due("KIND 3, SPEED not 39", x.flight(3, 0, 12, 0), 1);
        CHECK.due("KIND 3, SPEED not 41", x.flight(3, 8, 15, 0), 3);
        CHECK.due("KIND 3, MEET not 2", x.flight(3, 8, 15, 2), 1);
        // BROKEN 1: of LENGTH 80 KIND 1 has gone 20 18 16 14, 7 * 68 / 80 = 5.95 ROWS; of 85 KIND 3 has gone 40 33.
        CHECK.due("none BROKEN at first", x.broken(1), 0);
        CHECK.due("KIND 1, DRAG not 4", x.over(1, 12, 14, 4), 5);
        CHECK.due("KIND 3, DRAG not 16", x.over(3, 12, 15, 2), 10);
        // BROKEN 2 of LENGTH 75, WHOLE 69: 30 22 16 are 68. BROKEN 4 of LENGTH 85, WHOLE 71: 40 30 are 70.
        x.broken(2);
        CHECK.due("KIND 2, DRAG not 19", x.flight(2, 8, 15, 0), 4);
        x.broken(4);
        CHECK.due("KIND 3, DRAG not 14", x.flight(3, 12, 15, 0), 3);
    }

    /** "A SPEED (10 .. 60)". */
    private static void speed() {
        FeatherHall x = new FeatherHall();
        for (int kind = 0; kind < 4; kind++) {
            CHECK.due("SPEED 10", x.kind(kind, 10, 0, 1), 1);
            CHECK.due("10 gone: one ROW on", x.over(kind, 0, 12, 1), 0);
            CHECK.due("SPEED 9", x.kind(kind, 9, 0, 1), FeatherHall.OUTSIDE);
            CHECK.due("still 10", x.over(kind, 0, 12, 1), 0);
            CHECK.due("SPEED 60", x.kind(kind, 60, 0, 1), 1);
            CHECK.due("60 gone: six ROWS on", x.over(kind, 12, 12, 1), 8);
            CHECK.due("SPEED 61", x.kind(kind, 61, 0, 1), FeatherHall.OUTSIDE);
            CHECK.due("still 60: 7 * 61 / 85 would be 5 ROWS", x.over(kind, 12, 15, 1), 2);
        }
    }

    /** "A DRAG (0 .. 60)". */
    private static void drag() {
        FeatherHall x = new FeatherHall();
        for (int kind = 0; kind < 4; kind++) {
            CHECK.due("DRAG 0", x.kind(kind, 10, 0, 1), 1);
            CHECK.due("10 10 10 10", x.flight(kind, 0, 12, 0), 4);
            CHECK.due("DRAG -1", x.kind(kind, 10, -1, 1), FeatherHall.OUTSIDE);
            CHECK.due("still 10 10 10 10", x.flight(kind, 0, 12, 0), 4);
            CHECK.due("DRAG 60", x.kind(kind, 50, 60, 1), 1);
            CHECK.due("50 20", x.flight(kind, 12, 12, 0), 2);
            CHECK.due("DRAG 61", x.kind(kind, 50, 61, 1), FeatherHall.OUTSIDE);
            CHECK.due("still 50 20, not 50 19", x.flight(kind, 12, 12, 0), 2);
        }
    }

    /** "A MEET (1 .. 6)". */
    private static void meet() {
        FeatherHall x = new FeatherHall();
        for (int kind = 0; kind < 4; kind++) {
            CHECK.due("MEET 1", x.kind(kind, 10, 60, 1), 1);
            CHECK.due("only in the TICK of landing", x.flight(kind, 12, 15, 2), 38);
            CHECK.due("MEET 0", x.kind(kind, 10, 60, 0), FeatherHall.OUTSIDE);
            CHECK.due("still 1", x.flight(kind, 12, 15, 2), 38);
            CHECK.due("MEET 6", x.kind(kind, 10, 60, 6), 1);
            CHECK.due("in the last six", x.flight(kind, 12, 15, 2), 33);
            CHECK.due("MEET 7", x.kind(kind, 10, 60, 7), FeatherHall.OUTSIDE);
            CHECK.due("still 6", x.flight(kind, 12, 15, 2), 33);
        }
    }

    /** "BROKEN ones (0 .. 8; 0 at first)". */
    private static void brokenAtMost() {
        FeatherHall x = new FeatherHall();
        CHECK.due("BROKEN -1", x.broken(-1), FeatherHall.OUTSIDE);
        CHECK.due("BROKEN 9", x.broken(9), FeatherHall.OUTSIDE);
        CHECK.due("still 0", x.broken(8), 0);
        CHECK.due("BROKEN -1", x.broken(-1), FeatherHall.OUTSIDE);
        CHECK.due("BROKEN 9", x.broken(9), FeatherHall.OUTSIDE);
        CHECK.due("still 8", x.broken(8), 8);
        CHECK.due("8 as it was", x.broken(0), 8);
        for (int b = 1; b <= 8; b++) {
            CHECK.due("one more", x.broken(b), b - 1);
        }
    }

    /** "ROWS are ROW a and ROW t and 1; LENGTH is 10 ROWS and 5 times the difference of both COLS": 10 .. 85. */
    private static void rowsAndLength() {
        FeatherHall x = same(10, 0, 1);
        lands("LENGTH 10, the least", x, 0, 0, 1);
        lands("LENGTH 15", x, 0, 1, 2);
        lands("LENGTH 20 by COLS", x, 1, 3, 2);
        lands("LENGTH 20 by ROW t", x, 0, 4, 2);
        lands("LENGTH 20 by ROW a", x, 4, 0, 2);
        lands("LENGTH 25 by 3 COLS", x, 0, 3, 3);
        lands("as much to the left", x, 3, 0, 3);
        lands("LENGTH 70", x, 15, 15, 7);
        lands("LENGTH 85, the greatest", x, 12, 15, 9);
        lands("as much to the left", x, 15, 12, 9);
    }

    /** "It flies WHOLE: LENGTH times (100 - 4 BROKEN), by 100, cut." */
    private static void wholeIsCut() {
        // 85 * 96 / 100 = 81.6; 41 and 41 * 98 / 100 = 40 are 81.
        lands("81, not 82", same(41, 0, 1, 1), 12, 15, 2);
        lands("81, not 80", same(40, 0, 1, 1), 12, 15, 3);
        // 50 * 96 / 100 = 48, nothing to cut.
        lands("48, not 49", same(48, 0, 1, 1), 12, 4, 1);
        lands("48, not 47", same(47, 0, 1, 1), 12, 4, 2);
        // 10 * 68 / 100 = 6, 85 * 68 / 100 = 57.8.
        lands("the least and the most BROKEN", same(10, 0, 1, 8), 0, 0, 1);
        lands("57, not 58", same(57, 0, 1, 8), 12, 15, 1);
        lands("57, not 56", same(56, 0, 1, 8), 12, 15, 2);
        lands("BROKEN 0 takes nothing", same(50, 0, 1, 0), 12, 4, 1);
    }

    /** "In TICK 1 it goes SPEED on": whatever DRAG and BROKEN. */
    private static void firstTickGoesSpeed() {
        // LENGTH 70, ROWS 7: 40 gone are 4 ROWS, the first behind the net.
        over("DRAG 60 and BROKEN 8", same(40, 60, 1, 8), 12, 12, 1, 0);
        over("one less", same(39, 60, 1, 8), 12, 12, 1, FeatherHall.NONE);
    }

    /** "In each later one what it went in the one before times (100 - DRAG - 2 BROKEN), by 100, cut". */
    private static void laterTicksAreCut() {
        lands("20 20", same(20, 0, 1), 0, 12, 2);
        // 20 * 99 / 100 = 19.8, 20 * 96 / 100 = 19.2.
        lands("20 19, not 20", same(20, 1, 1), 0, 12, 3);
        lands("20 19", same(20, 4, 1), 0, 12, 3);
        lands("50 40, nothing to cut: 85", same(50, 20, 1), 12, 15, 2);
        // 20 19 18 of 55: the third goes by the second as it was cut (19 * 95 / 100 = 18.05).
        lands("20 19 18 are 57", same(20, 5, 1), 0, 15, 3);
        // 33 * 67 / 100 = 22.11 and 22 * 67 / 100 = 14.74: 33 22 14 are 69, one less than LENGTH 70.
        lands("33 22 14, then one more", same(33, 33, 1), 12, 12, 4);
    }

    /** The same sentence: BROKEN slows twice as much as it is. */
    private static void brokenSlows() {
        // 10 8 6 5 4 3 2, then 2 in each: 58 behind 17; WHOLE is 57.
        lands("84 of 100", same(10, 0, 1, 8), 12, 15, 17);
        // BROKEN 1, LENGTH 40, WHOLE 38: 20 19 and 19 18.
        lands("20 19", same(20, 0, 1, 1), 0, 12, 2);
        lands("19 18 are 37", same(19, 0, 1, 1), 0, 12, 3);
        // DRAG and BROKEN together: 50 * 24 / 100 = 12; WHOLE of 85 is 57.
        lands("50 12", same(50, 60, 1, 8), 12, 15, 2);
        // 45 * 24 / 100 = 10.8, 10 * 24 / 100 = 2.4: 45 10 2.
        lands("45 10 2 are 57", same(45, 60, 1, 8), 12, 15, 3);
        lands("44 10 2 are 56", same(44, 60, 1, 8), 12, 15, 4);
    }

    /** "(But 2 at least)". */
    private static void twoAtLeast() {
        // 10, 4, then 4 * 40 / 100 = 1.6 and 2 * 40 / 100 = 0.8: 2 in each, 86 behind 38.
        lands("1 and 0 become 2", same(10, 60, 1), 12, 15, 38);
        // 10 * 24 / 100 = 2.4: 2 in each, 58 behind 25.
        lands("2 stays 2", same(10, 60, 1, 8), 12, 15, 25);
        // 15 * 40 / 100 = 6, 6 * 40 / 100 = 2.4: 15 6 2 2 2 2 2 are 31, LENGTH 30.
        lands("15 6 2", same(15, 60, 1), 0, 8, 7);
        // 20 8 3 2 of LENGTH 30: 3.2 is cut to 3, and 3 * 40 / 100 = 1.2 becomes 2.
        lands("20 8 3", same(20, 60, 1), 0, 8, 3);
        lands("20 8 3 2 2 of LENGTH 35", same(20, 60, 1), 0, 9, 5);
    }

    /** "GONE are all these together, WHOLE at most." */
    private static void wholeAtMost() {
        over("10 gone, not 60", same(60, 0, 6), 0, 0, 1, 0);
        over("55 gone, not 60", same(60, 0, 6), 0, 15, 1, 15);
        over("85 gone, not 120", same(60, 0, 6), 12, 15, 2, 15);
        // WHOLE 57 of 85: 7 * 57 / 85 = 4.7 ROWS and 3 * 57 / 85 = 2.01 COLS.
        over("57 gone, not 60", same(60, 0, 6, 8), 12, 15, 1, 2);
    }

    /** "It LANDS in the first TICK with GONE WHOLE." */
    private static void firstTickWithGoneWhole() {
        lands("just WHOLE", same(40, 0, 1), 0, 12, 1);
        lands("one too few", same(39, 0, 1), 0, 12, 2);
        lands("just WHOLE in TICK 4", same(10, 0, 1), 0, 12, 4);
        lands("5 lack", same(10, 0, 1), 0, 13, 5);
    }

    /** "Over the net, if G is above ROW a, and then in ROW G less ROW a less 1 of the other side". */
    private static void aboveRowOfA() {
        FeatherHall x = same(10, 0, 1);
        for (int row = 0; row < 4; row++) {
            for (int n = 1; n <= row; n++) {
                over("G is " + n, x, 4 * row, 12, n, FeatherHall.NONE);
            }
            for (int n = row + 1; n <= row + 4; n++) {
                over("G is " + n, x, 4 * row, 12, n, 4 * (n - row - 1));
            }
        }
    }

    /** "It is ROWS times GONE by LENGTH, cut, ROWS on". */
    private static void rowsOnAreCut() {
        over("1.9 ROWS", same(19, 0, 1), 0, 12, 1, 0);
        over("2.0 ROWS", same(20, 0, 1), 0, 12, 1, 4);
        // LENGTH 55, ROWS 4: 13 gone are 0.95 ROWS, 14 are 1.02 (and 0.76 COLS).
        over("0.95 ROWS", same(13, 0, 1), 0, 15, 1, FeatherHall.NONE);
        over("1.02 ROWS", same(14, 0, 1), 0, 15, 1, 0);
        // BROKEN shortens GONE, not LENGTH: 40 of 70 are 4 ROWS of 7.
        over("LENGTH stays when BROKEN", same(40, 0, 1, 8), 12, 12, 1, 0);
    }

    /** "In COL that of a and (COL t less COL a) times GONE, by LENGTH, cut towards that of a." */
    private static void colIsCutTowardsA() {
        // 3 COLS of LENGTH 55: 36 gone are 1.96 COLS and 2 ROWS, 37 are 2.02 COLS.
        over("1.96 to the right", same(36, 0, 1), 0, 15, 1, 5);
        over("1.96 to the left", same(36, 0, 1), 3, 12, 1, 6);
        over("2.02 to the right", same(37, 0, 1), 0, 15, 1, 6);
        over("2.02 to the left", same(37, 0, 1), 3, 12, 1, 5);
        // 2 COLS of LENGTH 50: 24 gone are 0.96 COLS and 1 ROW, 25 are just 1 and 2.
        over("0.96 to the right", same(24, 0, 1), 0, 14, 1, 0);
        over("0.96 to the left", same(24, 0, 1), 3, 13, 1, 3);
        over("1 to the right", same(25, 0, 1), 0, 14, 1, 5);
        over("1 to the left", same(25, 0, 1), 3, 13, 1, 6);
        over("straight across", same(20, 0, 1), 2, 14, 1, 6);
        CHECK.due("short: lands ahead of t, to the right", same(60, 0, 1, 8).flight(0, 12, 15, 1), 2);
        CHECK.due("short: lands ahead of t, to the left", same(60, 0, 1, 8).flight(0, 15, 12, 1), 1);
    }

    /** "NET: where it LANDS, it is not over the net." */
    private static void net() {
        // 12 to 4 is LENGTH 50, ROWS 5: BROKEN 5 leaves 40, which are 4 ROWS; BROKEN 6 leaves 38.
        for (int what = 0; what <= 2; what++) {
            int[] over = {1, 0, 1};
            int[] net = {1, FeatherHall.NONE, FeatherHall.NONE};
            CHECK.due("just over, what " + what, same(60, 0, 6, 5).flight(0, 12, 4, what), over[what]);
            CHECK.due("just not, what " + what, same(60, 0, 6, 6).flight(0, 12, 4, what), net[what]);
        }
        // One TICK after the other: 10 9 8 7 6 are 40 with BROKEN 5 (90 of 100 in each TICK).
        FeatherHall slow = same(10, 0, 6, 5);
        CHECK.due("just over, slowly: lands", slow.flight(0, 12, 4, 0), 5);
        CHECK.due("just over, slowly: MET", slow.flight(0, 12, 4, 2), 5);
        over("just over, ahead of landing", slow, 12, 4, 4, FeatherHall.NONE);
        over("just over, where it lands", slow, 12, 4, 5, 0);
        for (int n = 1; n <= 60; n++) {
            over("NET in no TICK", same(10, 0, 6, 6), 12, 4, n, FeatherHall.NONE);
        }
        // To ROW 0 every BROKEN one is too many, from ROW 0 too; whole it comes just over.
        for (int a = 0; a < 16; a += 4) {
            CHECK.due("BROKEN 0 from " + a, same(60, 0, 1, 0).flight(0, a, 0, 1), 0);
            CHECK.due("BROKEN 1 from " + a, same(60, 0, 1, 1).flight(0, a, 0, 1), FeatherHall.NONE);
        }
    }

    /** "It can be MET in the last MEET TICKS up to that in which it LANDS". */
    private static void lastMeetTicks() {
        // 10 in each TICK from ROW 0: lands in TICK 4, over the net in all four.
        int[] first = {4, 3, 2, 1, 1, 1};
        for (int meet = 1; meet <= 6; meet++) {
            met("MEET " + meet, same(10, 0, meet), 0, 12, first[meet - 1]);
        }
        // 38 TICKS.
        for (int meet = 1; meet <= 6; meet++) {
            met("MEET " + meet, same(10, 60, meet), 12, 15, 39 - meet);
        }
        met("one TICK in all", same(60, 0, 6), 0, 0, 1);
    }

    /** "As far as it is over the net then." */
    private static void asFarAsOverTheNet() {
        // 10 4 2 2 ..: 40 gone behind TICK 15, which are 4 ROWS of LENGTH 40, 50 and 60.
        met("only where it lands", same(10, 60, 6), 12, 0, 15);
        lands("TICK 15", same(10, 60, 6), 12, 0, 15);
        met("just the last six", same(10, 60, 6), 12, 4, 15);
        lands("TICK 20", same(10, 60, 6), 12, 4, 20);
        met("the last five of six", same(10, 60, 5), 12, 4, 16);
        met("six of more", same(10, 60, 6), 12, 8, 20);
        // 10 in each TICK: over the net in TICKS 4 and 5 of 5.
        met("two of six", same(10, 0, 6), 12, 4, 4);
        met("two of three", same(10, 0, 3), 12, 4, 4);
        met("two of two", same(10, 0, 2), 12, 4, 4);
        met("one of one", same(10, 0, 1), 12, 4, 5);
    }

    /** "0 the TICK in which it LANDS, 1 the CELL there (NONE: NET), 2 the first TICK ..": OUTSIDE beyond. */
    private static void whatOfFlight() {
        FeatherHall x = same(10, 0, 2);
        int[] want = {FeatherHall.OUTSIDE, 4, 12, 3, FeatherHall.OUTSIDE};
        for (int what = -1; what <= 3; what++) {
            CHECK.due("what " + what, x.flight(0, 0, 12, what), want[what + 1]);
        }
        x.broken(8);
        int[] ofNet = {FeatherHall.OUTSIDE, 1, FeatherHall.NONE, FeatherHall.NONE, FeatherHall.OUTSIDE};
        for (int what = -1; what <= 3; what++) {
            CHECK.due("NET, what " + what, x.flight(0, 0, 0, what), ofNet[what + 1]);
        }
    }

    /** "Behind TICK n (1 .. 60; behind landing where it landed); NONE: it is not over the net." */
    private static void behindTicks() {
        FeatherHall x = same(10, 60, 6);
        over("one below", x, 12, 15, 0, FeatherHall.OUTSIDE);
        over("the first", x, 12, 15, 1, FeatherHall.NONE);
        // 48 gone are 3.95 ROWS; 50 are 4.1 and 1.76 COLS.
        over("not yet over the net", x, 12, 15, 19, FeatherHall.NONE);
        over("just over the net", x, 12, 15, 20, 1);
        over("ahead of landing", x, 12, 15, 37, 10);
        over("where it lands", x, 12, 15, 38, 15);
        over("behind landing", x, 12, 15, 39, 15);
        over("the last", x, 12, 15, 60, 15);
        over("one above", x, 12, 15, 61, FeatherHall.OUTSIDE);
        x.broken(8);
        // WHOLE 57, 25 TICKS.
        over("broken: where it lands", x, 12, 15, 25, 2);
        over("broken: the last", x, 12, 15, 60, 2);
        over("NET: the last", x, 12, 0, 60, FeatherHall.NONE);
    }

    /** "A KIND becomes so", "BROKEN: that which it was": FLIGHTS asked before go by what is so now. */
    private static void changedBehindAsking() {
        FeatherHall x = new FeatherHall();
        for (int kind = 0; kind < 4; kind++) {
            x.kind(kind, 10, 0, 1);
            CHECK.due("first", x.flight(kind, 15, 15, 0), 7);
            for (int other = 0; other < 4; other++) {
                x.kind(other, 20, 0, 1);
                CHECK.due("KIND " + other + " changed", x.flight(kind, 15, 15, 0), kind == other ? 4 : 7);
                x.kind(other, 10, 0, 1);
            }
            // WHOLE 47: 10 8 6 5 4 3 2 2 2 2 2 2 are 48.
            x.broken(8);
            CHECK.due("BROKEN changed", x.flight(kind, 15, 15, 0), 12);
            x.broken(0);
            CHECK.due("and back", x.flight(kind, 15, 15, 0), 7);
        }
    }
}
