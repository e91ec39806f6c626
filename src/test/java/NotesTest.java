/** Promises 16 to 19: note, tally, habit, strongest. */
public final class NotesTest {
    private static final Check CHECK = new Check("NotesTest");

    public static void main(String[] args) {
        notes();
        full();
        chance();
        greatestShare();
        largest();
        CHECK.finish();
    }

    private static void tallies(FeatherHall x, int zone, int kind, int... want) {
        for (int what = 0; what < want.length; what++) {
            CHECK.due("tally(" + zone + ", " + kind + ", " + what + ")", x.tally(zone, kind, what), want[what]);
        }
    }

    private static void notes() {
        FeatherHall x = new FeatherHall();
        tallies(x, 0, 0, 0, 0, 0, 0);
        CHECK.due("first", x.note(0, 3, false), 1);
        CHECK.due("no ZONE", x.note(-1, 3, true), 2);
        CHECK.due("no KIND", x.note(0, -1, false), 3);
        CHECK.due("neither", x.note(-1, -1, true), 4);
        tallies(x, 0, 3, 1, 1, 1, 1);
        CHECK.due("left: 0 for 1", x.note(0, 2, true), 5);
        CHECK.due("left: 1 for 0", x.note(1, 2, true), 6);
        CHECK.due("left: 2 for 3", x.note(2, 1, true), 7);
        CHECK.due("left: 3 for 2", x.note(3, 1, true), 8);
        tallies(x, 0, 2, 1, 2, 2, 5);
        tallies(x, 1, 2, 1, 1, 2, 5);
        tallies(x, 2, 1, 1, 1, 2, 5);
        tallies(x, 3, 1, 1, 1, 2, 5);
        tallies(x, 3, 0, 0, 1, 0, 5);
        CHECK.due("4 ZONES with 3 KINDS are TRIED", x.count(1), 12);
        CHECK.due("NOTES with gaps count", x.count(0), 8);
        int[][] outside = {{-2, 0}, {4, 0}, {0, -2}, {0, 4}};
        for (int[] v : outside) {
            CHECK.due("not -1 .. 3", x.note(v[0], v[1], false), FeatherHall.OUTSIDE);
        }
        int[][] unknown = {{-1, 0}, {4, 0}, {0, -1}, {0, 4}};
        for (int[] v : unknown) {
            CHECK.due("tally: no such ZONE, KIND", x.tally(v[0], v[1], 9), FeatherHall.UNKNOWN);
            CHECK.due("habit: no such ZONE, KIND", x.habit(v[0], v[1]), FeatherHall.UNKNOWN);
        }
        CHECK.due("what -1", x.tally(0, 0, -1), FeatherHall.OUTSIDE);
        CHECK.due("what 4", x.tally(0, 0, 4), FeatherHall.OUTSIDE);
    }

    private static void full() {
        FeatherHall x = new FeatherHall();
        for (int note = 1; note <= 60; note++) {
            CHECK.due("note " + note, x.note(note % 4, note % 3 - 1, false), note);
        }
        CHECK.due("61", x.note(0, 0, false), FeatherHall.FULL);
        CHECK.due("a gap too", x.note(-1, -1, false), FeatherHall.FULL);
        CHECK.due("OUTSIDE comes first", x.note(4, 0, false), FeatherHall.OUTSIDE);
        CHECK.due("refused, nothing changed", x.count(0), 60);
        tallies(x, 0, 0, 5, 10, 20, 40);
    }

    /** Two ZONES and two KINDS, each in m NOTES: CHANCE is 1 by C(2m, m), and 4 are TRIED. */
    private static FeatherHall twoHabits(int m) {
        FeatherHall x = new FeatherHall();
        for (int note = 0; note < m; note++) {
            x.note(1, 1, false);
            x.note(3, 2, false);
        }
        return x;
    }

    private static void chance() {
        CHECK.due("nothing noted", new FeatherHall().habit(0, 0), 0);
        CHECK.due("none", new FeatherHall().strongest(), FeatherHall.NONE);
        // C(8, 4) is 70, below 80; C(10, 5) is 252.
        CHECK.due("4 of each may be chance", twoHabits(4).habit(1, 1), 0);
        CHECK.due("none", twoHabits(4).strongest(), FeatherHall.NONE);
        FeatherHall x = twoHabits(5);
        CHECK.due("5 of each are more", x.habit(1, 1), 1);
        CHECK.due("5 of each are more", x.habit(3, 2), 1);
        CHECK.due("not at all together", x.habit(1, 2), 0);
        CHECK.due("not TRIED", x.habit(0, 0), 0);
        CHECK.due("the least of both", x.strongest(), 4 * 1 + 1);
        FeatherHall y = new FeatherHall();
        y.note(0, 0, false);
        for (int note = 0; note < 59; note++) {
            y.note(1, 1, false);
        }
        // CHANCE is 1 by 60, and 4 are TRIED.
        CHECK.due("one alone", y.habit(0, 0), 0);
        exactly();
    }

    /** CHANCE times 20 times TRIED is just 1. */
    private static void exactly() {
        // N 10, n 3, k 3, x 3: 1 by C(10, 3) = 1 by 120; TRIED 6: two ZONES and three KINDS.
        FeatherHall x = new FeatherHall();
        for (int note = 0; note < 3; note++) {
            x.note(0, 0, false);
        }
        for (int note = 0; note < 6; note++) {
            x.note(1, 1, false);
        }
        x.note(1, 2, false);
        CHECK.due("6 are TRIED", x.count(1), 6);
        CHECK.due("1 at most: just 1", x.habit(0, 0), 1);
        FeatherHall y = new FeatherHall();
        for (int note = 0; note < 3; note++) {
            y.note(0, 0, false);
        }
        for (int note = 0; note < 5; note++) {
            y.note(1, 1, false);
        }
        y.note(1, 2, false);
        y.note(1, 3, false);
        CHECK.due("8 are TRIED", y.count(1), 8);
        CHECK.due("above 1", y.habit(0, 0), 0);
    }

    private static void greatestShare() {
        // ZONE 0: 9 of 10 with KIND 0; ZONE 2: 10 of 10 with KIND 1.
        FeatherHall x = new FeatherHall();
        for (int note = 0; note < 10; note++) {
            x.note(0, note == 0 ? 1 : 0, false);
            x.note(2, 1, false);
        }
        CHECK.due("9 of 10", x.habit(0, 0), 1);
        CHECK.due("10 of 10", x.habit(2, 1), 1);
        CHECK.due("the greatest x by n", x.strongest(), 4 * 2 + 1);
    }

    private static void largest() {
        FeatherHall x = twoHabits(30);
        CHECK.due("C(60, 30) is not too great", x.habit(1, 1), 1);
        CHECK.due("none together", x.habit(1, 2), 0);
        FeatherHall y = new FeatherHall();
        for (int note = 0; note < 60; note++) {
            y.note(note % 2, note / 30, false);
        }
        CHECK.due("15 of 30 and 30", y.habit(0, 0), 0);
        CHECK.due("none", y.strongest(), FeatherHall.NONE);
    }
}
