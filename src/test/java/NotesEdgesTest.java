/** Section 4 and promises 16 to 19, each sentence that names an edge: at the edge and one beyond it. */
public final class NotesEdgesTest {
    private static final Check CHECK = new Check("NotesEdgesTest");

    public static void main(String[] args) {
        sixtyAtMost();
        gapsCountToSixty();
        zonesAndKinds();
        eachMayBeGap();
        leftHand();
        leftHandWithGap();
        nothingNoted();
        onlyGaps();
        unknownHabits();
        whatOfTally();
        triedAboveZero();
        justOne();
        nearlyOne();
        xOrMore();
        notTried();
        strongestIsPastChance();
        strongestOfSeveral();
        strongestByShare();
        strongestNone();
        mostWays();
        CHECK.finish();
    }

    private static void add(FeatherHall x, int times, int zone, int kind) {
        for (int note = 0; note < times; note++) {
            x.note(zone, kind, false);
        }
    }

    /** NOTES by ZONE (rows) and KIND. */
    private static FeatherHall noted(int[]... table) {
        FeatherHall x = new FeatherHall();
        for (int zone = 0; zone < table.length; zone++) {
            for (int kind = 0; kind < table[zone].length; kind++) {
                add(x, table[zone][kind], zone, kind);
            }
        }
        return x;
    }

    private static void tallies(String why, FeatherHall x, int zone, int kind, int... want) {
        for (int what = 0; what < want.length; what++) {
            CHECK.due(why + Calls.text(": tally", zone, kind, what), x.tally(zone, kind, what), want[what]);
        }
    }

    /** "NOTES (60 at most)": "FULL". */
    private static void sixtyAtMost() {
        FeatherHall x = new FeatherHall();
        for (int note = 1; note <= 60; note++) {
            CHECK.due("note " + note, x.note(1, 2, false), note);
        }
        tallies("60", x, 1, 2, 60, 60, 60, 60);
        CHECK.due("one more", x.note(1, 2, false), FeatherHall.FULL);
        CHECK.due("another", x.note(3, 0, true), FeatherHall.FULL);
        tallies("still 60", x, 1, 2, 60, 60, 60, 60);
        tallies("none of the others", x, 2, 0, 0, 0, 0, 60);
        CHECK.due("60 NOTES", x.count(0), 60);
        CHECK.due("OUTSIDE comes first", x.note(4, 2, false), FeatherHall.OUTSIDE);
        CHECK.due("OUTSIDE comes first", x.note(1, -2, false), FeatherHall.OUTSIDE);
        FeatherHall y = new FeatherHall();
        add(y, 59, 1, 2);
        CHECK.due("59 are not full", y.note(0, 0, false), 60);
        CHECK.due("60 are", y.note(0, 0, false), FeatherHall.FULL);
    }

    /** A NOTE with a GAP is a NOTE. */
    private static void gapsCountToSixty() {
        FeatherHall x = new FeatherHall();
        for (int note = 1; note <= 60; note++) {
            CHECK.due("gap " + note, x.note(-1, -1, false), note);
        }
        CHECK.due("full of gaps", x.note(0, 0, false), FeatherHall.FULL);
        CHECK.due("no gap more", x.note(-1, -1, false), FeatherHall.FULL);
        tallies("nothing without GAP", x, 0, 0, 0, 0, 0, 0);
        CHECK.due("60 NOTES", x.count(0), 60);
    }

    /** "OUTSIDE: not -1 .. 3": of ZONE and of KIND, and not UNKNOWN. */
    private static void zonesAndKinds() {
        FeatherHall x = new FeatherHall();
        int[] beyond = {-2, 4, Integer.MIN_VALUE, Integer.MAX_VALUE};
        for (int value : beyond) {
            CHECK.due("ZONE " + value, x.note(value, 0, false), FeatherHall.OUTSIDE);
            CHECK.due("ZONE " + value + ", left", x.note(value, 0, true), FeatherHall.OUTSIDE);
            CHECK.due("KIND " + value, x.note(0, value, false), FeatherHall.OUTSIDE);
            CHECK.due("KIND " + value + " and GAP", x.note(-1, value, false), FeatherHall.OUTSIDE);
        }
        CHECK.due("none was noted", x.count(0), 0);
        tallies("none was noted", x, 0, 0, 0, 0, 0, 0);
        for (int zone = 0; zone <= 3; zone++) {
            for (int kind = 0; kind <= 3; kind++) {
                CHECK.due("is as told", x.note(zone, kind, false), 4 * zone + kind + 1);
                CHECK.due("is told there", x.tally(zone, kind, 0), 1);
            }
        }
    }

    /** "Each may be a GAP": "of NOTES without GAP". */
    private static void eachMayBeGap() {
        FeatherHall x = new FeatherHall();
        CHECK.due("neither", x.note(2, 3, false), 1);
        tallies("one", x, 2, 3, 1, 1, 1, 1);
        CHECK.due("ZONE a GAP", x.note(-1, 3, false), 2);
        tallies("k does not count it", x, 2, 3, 1, 1, 1, 1);
        CHECK.due("KIND a GAP", x.note(2, -1, false), 3);
        tallies("n does not count it", x, 2, 3, 1, 1, 1, 1);
        CHECK.due("both", x.note(-1, -1, false), 4);
        tallies("N does not count it", x, 2, 3, 1, 1, 1, 1);
        CHECK.due("all are NOTES", x.count(0), 4);
        CHECK.due("one is TRIED", x.count(1), 1);
    }

    /** "Whether the left hand struck (then ZONE 0 stands for 1, 1 for 0, 2 for 3, 3 for 2)". */
    private static void leftHand() {
        int[] other = {1, 0, 3, 2};
        for (int zone = 0; zone < 4; zone++) {
            FeatherHall x = new FeatherHall();
            x.note(zone, 1, true);
            FeatherHall y = new FeatherHall();
            y.note(zone, 1, false);
            for (int stood = 0; stood < 4; stood++) {
                CHECK.due("left " + zone + " in " + stood, x.tally(stood, 1, 0), stood == other[zone] ? 1 : 0);
                CHECK.due("right " + zone + " in " + stood, y.tally(stood, 1, 0), stood == zone ? 1 : 0);
                CHECK.due("left: n of " + stood, x.tally(stood, 0, 1), stood == other[zone] ? 1 : 0);
            }
            for (int kind = 0; kind < 4; kind++) {
                CHECK.due("KIND stays", x.tally(0, kind, 2), kind == 1 ? 1 : 0);
            }
        }
    }

    private static void leftHandWithGap() {
        FeatherHall x = new FeatherHall();
        CHECK.due("ZONE a GAP", x.note(-1, 0, true), 1);
        CHECK.due("KIND a GAP", x.note(0, -1, true), 2);
        for (int zone = 0; zone < 4; zone++) {
            tallies("a GAP stays a GAP", x, zone, 0, 0, 0, 0, 0);
        }
    }

    private static void nothingNoted() {
        FeatherHall x = new FeatherHall();
        CHECK.due("no NOTES", x.count(0), 0);
        CHECK.due("none TRIED", x.count(1), 0);
        CHECK.due("none STRONGEST", x.strongest(), FeatherHall.NONE);
        for (int habit = 0; habit < 16; habit++) {
            tallies("none", x, habit / 4, habit % 4, 0, 0, 0, 0);
            CHECK.due("not PAST CHANCE", x.habit(habit / 4, habit % 4), 0);
        }
    }

    private static void onlyGaps() {
        FeatherHall x = new FeatherHall();
        for (int note = 0; note < 15; note++) {
            x.note(2, -1, false);
            x.note(-1, 2, false);
        }
        CHECK.due("30 NOTES", x.count(0), 30);
        CHECK.due("none TRIED", x.count(1), 0);
        CHECK.due("not PAST CHANCE", x.habit(2, 2), 0);
        CHECK.due("none STRONGEST", x.strongest(), FeatherHall.NONE);
    }

    /** "UNKNOWN" of tally and habit: a GAP is no ZONE and no KIND. */
    private static void unknownHabits() {
        FeatherHall x = noted(new int[] {1, 1, 1, 1}, new int[] {1, 1, 1, 1}, new int[] {1, 1, 1, 1},
            new int[] {1, 1, 1, 1});
        int[] beyond = {-1, 4, Integer.MIN_VALUE, Integer.MAX_VALUE};
        for (int value : beyond) {
            for (int what = -1; what <= 4; what++) {
                CHECK.due("tally, ZONE " + value, x.tally(value, 0, what), FeatherHall.UNKNOWN);
                CHECK.due("tally, KIND " + value, x.tally(0, value, what), FeatherHall.UNKNOWN);
            }
            CHECK.due("habit, ZONE " + value, x.habit(value, 0), FeatherHall.UNKNOWN);
            CHECK.due("habit, KIND " + value, x.habit(0, value), FeatherHall.UNKNOWN);
        }
        CHECK.due("ZONE 3 and KIND 3 are known", x.habit(3, 3), 0);
    }

    /** "0 x, 1 n, 2 k, 3 N": OUTSIDE beyond. */
    private static void whatOfTally() {
        FeatherHall x = noted(new int[] {2, 3}, new int[] {5, 7});
        int[] want = {FeatherHall.OUTSIDE, 3, 5, 10, 17, FeatherHall.OUTSIDE};
        for (int what = -1; what <= 4; what++) {
            CHECK.due("what " + what, x.tally(0, 1, what), want[what + 1]);
        }
    }

    /** "HABITS TRIED are those with n and k above 0": x may be 0. */
    private static void triedAboveZero() {
        FeatherHall x = new FeatherHall();
        // Along the corner: one ZONE and one KIND more in each.
        int[] want = {1, 4, 9, 16};
        for (int one = 0; one < 4; one++) {
            x.note(one, one, false);
            CHECK.due("TRIED", x.count(1), want[one]);
        }
        FeatherHall y = new FeatherHall();
        for (int one = 0; one < 4; one++) {
            y.note(0, one, false);
            CHECK.due("one ZONE", y.count(1), one + 1);
        }
        for (int one = 1; one < 4; one++) {
            y.note(one, 0, false);
            CHECK.due("ZONES more", y.count(1), 4 * (one + 1));
        }
        FeatherHall z = new FeatherHall();
        z.note(0, -1, false);
        z.note(-1, 0, false);
        CHECK.due("ZONE and KIND of GAPS try nothing", z.count(1), 0);
    }

    /** "CHANCE times 20 times how many are TRIED is 1 at most": just 1. */
    private static void justOne() {
        // 2 ZONES and 3 KINDS: 6 TRIED, 120; C(10, 3) and C(16, 2) are 120.
        FeatherHall three = noted(new int[] {3, 0, 0}, new int[] {0, 6, 1});
        CHECK.due("6 TRIED", three.count(1), 6);
        CHECK.due("3 of 3 and 3 of 10", three.habit(0, 0), 1);
        CHECK.due("7 of 7 are two KINDS: 6 of 7 and 6", three.habit(1, 1), 0);
        FeatherHall two = noted(new int[] {2, 0, 0}, new int[] {0, 13, 1});
        CHECK.due("2 of 2 and 2 of 16", two.habit(0, 0), 1);
        // 3 ZONES and 2 KINDS, all but one ZONE with the other KIND: 7 of 7 and 7 of 10, 14 of 14 and 14 of 16.
        FeatherHall seven = noted(new int[] {7, 0}, new int[] {0, 2}, new int[] {0, 1});
        CHECK.due("6 TRIED", seven.count(1), 6);
        CHECK.due("7 of 7 and 7 of 10", seven.habit(0, 0), 1);
        FeatherHall fourteen = noted(new int[] {14, 0}, new int[] {0, 1}, new int[] {0, 1});
        CHECK.due("14 of 14 and 14 of 16", fourteen.habit(0, 0), 1);
        // One NOTE fewer: C(9, 3) is 84, C(15, 2) 105. One more: 165 and 136, also with 6 TRIED.
        CHECK.due("3 of 9", noted(new int[] {3, 0, 0}, new int[] {0, 5, 1}).habit(0, 0), 0);
        CHECK.due("2 of 15", noted(new int[] {2, 0, 0}, new int[] {0, 12, 1}).habit(0, 0), 0);
        CHECK.due("3 of 11", noted(new int[] {3, 0, 0}, new int[] {0, 7, 1}).habit(0, 0), 1);
        // As many NOTES, 8 or 9 TRIED.
        CHECK.due("8 TRIED", noted(new int[] {3, 0, 0, 0}, new int[] {0, 5, 1, 1}).habit(0, 0), 0);
        CHECK.due("9 TRIED", noted(new int[] {3, 0, 0}, new int[] {0, 5, 1}, new int[] {0, 1, 0}).habit(0, 0), 0);
        // 4 TRIED, 80: C(8, 4) is 70, C(9, 4) 126.
        CHECK.due("4 of 8", noted(new int[] {4, 0}, new int[] {0, 4}).habit(0, 0), 0);
        CHECK.due("4 of 9", noted(new int[] {4, 0}, new int[] {0, 5}).habit(0, 0), 1);
    }

    /** The same, where a rounded number would tell it wrongly. */
    private static void nearlyOne() {
        // N 59, n 17, k 20, x 10, 4 TRIED: 1.00003.
        CHECK.due("just above", noted(new int[] {10, 7}, new int[] {10, 32}).habit(0, 0), 0);
        CHECK.due("x one more", noted(new int[] {11, 6}, new int[] {9, 33}).habit(0, 0), 1);
        // N 46, n 9, k 20, x 8, 16 TRIED: 1.00009.
        CHECK.due("just above", noted(new int[] {8, 1, 0, 0}, new int[] {10, 23, 0, 0}, new int[] {1, 0, 1, 0},
            new int[] {1, 0, 0, 1}).habit(0, 0), 0);
        // N 33, n 12, k 19, x 11, 16 TRIED: 0.9998.
        CHECK.due("just below", noted(new int[] {11, 1, 0, 0}, new int[] {6, 11, 0, 0}, new int[] {1, 0, 1, 0},
            new int[] {1, 0, 0, 1}).habit(0, 0), 1);
        // N 31, n 9, k 20, x 9, 6 TRIED: 0.9998.
        CHECK.due("just below", noted(new int[] {9, 0, 0}, new int[] {11, 10, 1}).habit(0, 0), 1);
    }

    /** "Those that have x or more of the k": x alone is not all of it. */
    private static void xOrMore() {
        // N 20, n 10, k 10, 4 TRIED: of C(20, 10) = 184756 ways 10 or more have 1, 9: 100, 8: 2025, 7: 14400.
        CHECK.due("9: 101 * 80 is below", noted(new int[] {9, 1}, new int[] {1, 9}).habit(0, 0), 1);
        CHECK.due("8: 2126 * 80 = 170080", noted(new int[] {8, 2}, new int[] {2, 8}).habit(0, 0), 1);
        CHECK.due("7: far above", noted(new int[] {7, 3}, new int[] {3, 7}).habit(0, 0), 0);
        CHECK.due("x is 0: all ways", noted(new int[] {0, 20}, new int[] {20, 0}).habit(0, 0), 0);
        CHECK.due("none of the KIND", noted(new int[] {0, 20}, new int[] {0, 20}).habit(0, 0), 0);
        // n above k: 5 of 10 and 5, of 40.
        CHECK.due("all of the KIND", noted(new int[] {5, 5}, new int[] {0, 30}).habit(0, 0), 1);
        CHECK.due("all of the ZONE", noted(new int[] {5, 0}, new int[] {5, 30}).habit(0, 0), 1);
    }

    /** "PAST CHANCE is a HABIT that is TRIED". */
    private static void notTried() {
        FeatherHall x = noted(new int[] {15, 0}, new int[] {0, 15});
        CHECK.due("TRIED", x.habit(0, 0), 1);
        CHECK.due("TRIED, without one", x.habit(0, 1), 0);
        CHECK.due("no such ZONE noted", x.habit(2, 0), 0);
        CHECK.due("no such KIND noted", x.habit(0, 2), 0);
        CHECK.due("neither", x.habit(3, 3), 0);
        FeatherHall one = new FeatherHall();
        add(one, 60, 2, 1);
        CHECK.due("one ZONE and one KIND alone are CHANCE 1", one.habit(2, 1), 0);
        FeatherHall line = noted(new int[] {20, 10, 20, 10});
        for (int kind = 0; kind < 4; kind++) {
            CHECK.due("one ZONE alone is CHANCE 1", line.habit(0, kind), 0);
        }
    }

    /** "STRONGEST: of those PAST CHANCE": a greater share that may be chance is passed by. */
    private static void strongestIsPastChance() {
        // ZONE 0 has 1 of 1 with KIND 0, ZONE 1 9 of 10 with KIND 1.
        FeatherHall x = noted(new int[] {1, 0, 0}, new int[] {0, 9, 1}, new int[] {0, 0, 20});
        CHECK.due("1 of 1 may be chance", x.habit(0, 0), 0);
        CHECK.due("9 of 10 is not", x.habit(1, 1), 1);
        CHECK.due("20 of 20 is the strongest", x.strongest(), 4 * 2 + 2);
        FeatherHall y = noted(new int[] {1, 0, 0}, new int[] {0, 9, 1}, new int[] {3, 3, 20});
        CHECK.due("1 of 1 may be chance", y.habit(0, 0), 0);
        CHECK.due("9 of 10 is the strongest", y.strongest(), 4 * 1 + 1);
    }

    /** "Of several the least ZONE, then KIND". */
    private static void strongestOfSeveral() {
        CHECK.due("ZONE 0 and 1", noted(new int[] {0, 9}, new int[] {9, 0}).strongest(), 1);
        CHECK.due("ZONE 2 and 3", noted(new int[0], new int[0], new int[] {0, 0, 0, 9}, new int[] {9}).strongest(),
            4 * 2 + 3);
        // ZONE 3 strikes KINDS 1 and 2 alike often, ZONE 0 many.
        FeatherHall x = noted(new int[] {14, 0, 0, 14}, new int[0], new int[0], new int[] {0, 9, 9});
        CHECK.due("KIND 1 is PAST CHANCE", x.habit(3, 1), 1);
        CHECK.due("KIND 2 too", x.habit(3, 2), 1);
        CHECK.due("half of ZONE 0 comes first", x.strongest(), 0);
        FeatherHall y = noted(new int[] {10, 0, 0, 13}, new int[0], new int[0], new int[] {1, 9, 9});
        CHECK.due("13 of 23 is the most", y.strongest(), 3);
        FeatherHall z = noted(new int[] {10, 1, 1, 10}, new int[0], new int[0], new int[] {0, 9, 9});
        CHECK.due("KINDS 1 and 2 of ZONE 3: the least", z.strongest(), 4 * 3 + 1);
    }

    /** "The greatest x by n": as fractions, not as counts. */
    private static void strongestByShare() {
        // ZONE 0: 16 of 20 with KIND 0; ZONE 1: 8 of 8 with KIND 1.
        FeatherHall x = noted(new int[] {16, 4}, new int[] {0, 8});
        CHECK.due("16 of 20", x.habit(0, 0), 1);
        CHECK.due("8 of 8", x.habit(1, 1), 1);
        CHECK.due("8 of 8 is more", x.strongest(), 4 * 1 + 1);
        // 16 of 20 and 8 of 10 are alike: the least ZONE, whichever has more NOTES.
        FeatherHall y = noted(new int[] {16, 4}, new int[] {2, 8});
        CHECK.due("16 of 20", y.habit(0, 0), 1);
        CHECK.due("8 of 10", y.habit(1, 1), 1);
        CHECK.due("alike: ZONE 0", y.strongest(), 0);
        FeatherHall z = noted(new int[] {8, 2}, new int[] {4, 16});
        CHECK.due("alike: ZONE 0", z.strongest(), 0);
        // 17 of 21 is above 8 of 10; 15 of 19 is below.
        CHECK.due("17 of 21", noted(new int[] {8, 2}, new int[] {4, 17}).strongest(), 4 * 1 + 1);
        CHECK.due("15 of 19", noted(new int[] {15, 4}, new int[] {2, 8}).strongest(), 4 * 1 + 1);
    }

    /** "None": "NONE". */
    private static void strongestNone() {
        CHECK.due("4 and 4", noted(new int[] {4, 0}, new int[] {0, 4}).strongest(), FeatherHall.NONE);
        CHECK.due("5 and 5", noted(new int[] {5, 0}, new int[] {0, 5}).strongest(), 0);
        CHECK.due("all alike", noted(new int[] {15, 15}, new int[] {15, 15}).strongest(), FeatherHall.NONE);
        FeatherHall x = new FeatherHall();
        add(x, 60, 0, 0);
        CHECK.due("one HABIT alone", x.strongest(), FeatherHall.NONE);
    }

    /** 60 NOTES, 30 of a ZONE: more ways than an int holds, and times 20 TRIED more than a long. */
    private static void mostWays() {
        CHECK.due("30 and 30", noted(new int[] {30, 0}, new int[] {0, 30}).habit(0, 0), 1);
        CHECK.due("30 and 30", noted(new int[] {30, 0}, new int[] {0, 30}).strongest(), 0);
        CHECK.due("15 each", noted(new int[] {15, 15}, new int[] {15, 15}).habit(0, 0), 0);
        FeatherHall x = noted(new int[] {28, 0, 0, 0}, new int[] {0, 26, 0, 0}, new int[] {1, 1, 1, 0},
            new int[] {1, 1, 0, 1});
        CHECK.due("16 TRIED", x.count(1), 16);
        CHECK.due("28 of 28 and 30", x.habit(0, 0), 1);
        CHECK.due("0 of 28 and 28", x.habit(0, 1), 0);
        CHECK.due("1 of 3 and 1", x.habit(2, 2), 0);
        CHECK.due("the strongest", x.strongest(), 0);
    }
}
