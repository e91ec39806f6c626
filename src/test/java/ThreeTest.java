/** Promises 13 to 15: rally, three, again. */
public final class ThreeTest {
    private static final Check CHECK = new Check("ThreeTest");

    public static void main(String[] args) {
        rallies();
        atTheEnd();
        twoTogether();
        CHECK.finish();
    }

    private static void is(FeatherHall x, String when, int... want) {
        for (int what = 0; what < want.length; what++) {
            CHECK.due(when + ", three(" + what + ")", x.three(what), want[what]);
        }
    }

    private static void rallies() {
        FeatherHall x = new FeatherHall();
        is(x, "at first", 0, 0, 0, 0, 0, 0);
        CHECK.due("both at fault", x.rally(2), 0);
        is(x, "no point", 0, 0, 0, 0, 0, 0);
        CHECK.due("the two won", x.rally(1), 1);
        is(x, "1 is alone", 0, 1, 1, 1, 1, 0);
        CHECK.due("the two won: 0 has less", x.rally(1), 0);
        is(x, "2 is alone", 1, 1, 2, 2, 0, 0);
        CHECK.due("alone won", x.rally(0), 2);
        CHECK.due("both at fault: as before", x.rally(2), 2);
        is(x, "2 leads", 1, 1, 3, 2, 2, 0);
        CHECK.due("the two alike: the lesser", x.rally(1), 0);
        CHECK.due("how -1", x.rally(-1), FeatherHall.OUTSIDE);
        CHECK.due("how 3", x.rally(3), FeatherHall.OUTSIDE);
        CHECK.due("what -1", x.three(-1), FeatherHall.OUTSIDE);
        CHECK.due("what 6", x.three(6), FeatherHall.OUTSIDE);
        is(x, "refused, nothing changed", 2, 2, 3, 2, 0, 0);
        CHECK.due("points", x.again(), 7);
        is(x, "again", 0, 0, 0, 0, 0, 0);
        CHECK.due("no points", x.again(), 0);
    }

    private static void atTheEnd() {
        FeatherHall x = new FeatherHall();
        for (int point = 1; point <= 15; point++) {
            CHECK.due("not over yet", x.three(5), 0);
            CHECK.due("alone won", x.rally(0), 0);
        }
        is(x, "over", 15, 0, 0, 0, 0, 1);
        for (int how = 0; how <= 2; how++) {
            CHECK.due("no rally any more", x.rally(how), FeatherHall.NOT);
        }
        CHECK.due("OUTSIDE comes first", x.rally(3), FeatherHall.OUTSIDE);
        is(x, "refused, nothing changed", 15, 0, 0, 0, 0, 1);
        CHECK.due("points", x.again(), 15);
        CHECK.due("goes on", x.rally(1), 1);
    }

    private static void twoTogether() {
        FeatherHall x = new FeatherHall();
        x.rally(0);
        for (int point = 1; point <= 40 && x.three(5) == 0; point++) {
            x.rally(1);
        }
        int most = Math.max(x.three(0), Math.max(x.three(1), x.three(2)));
        CHECK.due("the two can end it", most, 15);
        CHECK.due("over", x.rally(1), FeatherHall.NOT);
    }
}
