/** Section 3 and promises 13 to 15, each sentence that names an edge: at the edge and one beyond it. */
public final class ThreeEdgesTest {
    private static final Check CHECK = new Check("ThreeEdgesTest");

    public static void main(String[] args) {
        scoresAtFirst();
        aloneOfSeveral();
        howIsTold();
        whatIsAsked();
        servesTheLesser();
        servesAsBefore();
        overByAlone();
        overByTheTwo();
        overByBothAtOnce();
        noneIsToldAnyMore();
        againFromTheStart();
        againWhenOver();
        CHECK.finish();
    }

    private static void is(FeatherHall x, String when, int... want) {
        for (int what = 0; what < want.length; what++) {
            CHECK.due(when + ", three(" + what + ")", x.three(what), want[what]);
        }
    }

    private static FeatherHall told(int... hows) {
        FeatherHall x = new FeatherHall();
        for (int how : hows) {
            x.rally(how);
        }
        return x;
    }

    /** Each three RALLIES that the two won give 2 to each of THREE. */
    private static FeatherHall allHave(int score) {
        FeatherHall x = new FeatherHall();
        for (int rally = 0; rally < score / 2 * 3; rally++) {
            x.rally(1);
        }
        return x;
    }

    /** "SCORES (0 at first)", "SERVES: 0 at first". */
    private static void scoresAtFirst() {
        is(new FeatherHall(), "at first", 0, 0, 0, 0, 0, 0);
        CHECK.due("no points", new FeatherHall().again(), 0);
    }

    /** "ALONE is that with the greatest SCORE, of several the least." */
    private static void aloneOfSeveral() {
        is(new FeatherHall(), "all alike: 0", 0, 0, 0, 0);
        is(told(1), "1 and 2 alike: 1", 0, 1, 1, 1);
        is(told(1, 1), "2 has the greatest", 1, 1, 2, 2);
        is(told(1, 1, 1), "all alike: 0", 2, 2, 2, 0);
        is(told(0), "0 has the greatest", 1, 0, 0, 0);
        is(told(0, 1), "all alike: 0", 1, 1, 1, 0);
        is(told(1, 0), "1 has the greatest", 0, 2, 1, 1);
        // 1 is ALONE with 2, and the two win: 0 has 1, 1 and 2 have 2.
        is(told(1, 0, 1), "1 and 2 alike: 1", 1, 2, 2, 1);
        is(told(1, 0, 1, 1), "2 has the greatest", 2, 2, 3, 2);
        is(told(1, 0, 1, 1, 1), "all alike: 0", 3, 3, 3, 0);
    }

    /** "0 ALONE won .. 1 the two won .. 2 both at fault: none": OUTSIDE beyond. */
    private static void howIsTold() {
        FeatherHall x = new FeatherHall();
        CHECK.due("how -1", x.rally(-1), FeatherHall.OUTSIDE);
        CHECK.due("how 3", x.rally(3), FeatherHall.OUTSIDE);
        is(x, "none is told", 0, 0, 0, 0, 0, 0);
        CHECK.due("how 0", x.rally(0), 0);
        is(x, "one more for ALONE", 1, 0, 0, 0, 0, 0);
        CHECK.due("how 1", x.rally(1), 1);
        is(x, "one more for each of the two", 1, 1, 1, 0, 1, 0);
        CHECK.due("how 2", x.rally(2), 1);
        is(x, "none more", 1, 1, 1, 0, 1, 0);
        CHECK.due("how -1", x.rally(-1), FeatherHall.OUTSIDE);
        CHECK.due("how 3", x.rally(3), FeatherHall.OUTSIDE);
        is(x, "none is told", 1, 1, 1, 0, 1, 0);
    }

    /** "0 .. 2 SCORES, 3 ALONE, 4 who SERVES, 5 whether it is OVER (1, 0)": OUTSIDE beyond. */
    private static void whatIsAsked() {
        FeatherHall x = told(1, 0, 1, 1);
        is(x, "told", 2, 2, 3, 2, 0, 0);
        CHECK.due("what -1", x.three(-1), FeatherHall.OUTSIDE);
        CHECK.due("what 6", x.three(6), FeatherHall.OUTSIDE);
    }

    /**
     * "That the two won the one of them with the lesser SCORE then, of both alike the lesser". (The greater number
     * never has the lesser SCORE: beside 0 and beside 2 both are always alike, beside 1 it is 0 that has less.)
     */
    private static void servesTheLesser() {
        CHECK.due("1 and 2 alike", new FeatherHall().rally(1), 1);
        CHECK.due("0 has 1, 2 has 2", told(1).rally(1), 0);
        CHECK.due("0 and 1 alike", told(1, 1).rally(1), 0);
        // 2 2 2, then 0 wins: 1 and 2 alike.
        CHECK.due("1 and 2 alike", told(1, 1, 1, 0).rally(1), 1);
        // 0 2 1: 0 has 1 then, 2 has 2.
        CHECK.due("0 has less", told(1, 0).rally(1), 0);
        // 1 2 2: 0 has 2 then, 2 has 3; 2 is ALONE then, 0 and 1 alike.
        CHECK.due("0 has less", told(1, 0, 1).rally(1), 0);
        CHECK.due("0 and 1 alike", told(1, 0, 1, 1).rally(1), 0);
    }

    /** "Else as before." */
    private static void servesAsBefore() {
        CHECK.due("0 at first", told().rally(2), 0);
        CHECK.due("1 before", told(1).rally(2), 1);
        CHECK.due("2 before", told(1, 1, 0).rally(2), 2);
        CHECK.due("2 still", told(1, 1, 0, 2).rally(2), 2);
    }

    /** "OVER, when a SCORE is 15 or more": 14 is not enough. */
    private static void overByAlone() {
        FeatherHall x = new FeatherHall();
        for (int point = 1; point <= 14; point++) {
            x.rally(0);
        }
        is(x, "14", 14, 0, 0, 0, 0, 0);
        CHECK.due("one more is told", x.rally(0), 0);
        is(x, "15", 15, 0, 0, 0, 0, 1);
    }

    /** The same by the two: SCORE 2 of THREE ends it as well as SCORE 0. */
    private static void overByTheTwo() {
        FeatherHall x = allHave(12);
        is(x, "12 each", 12, 12, 12, 0, 0, 0);
        x.rally(1);
        x.rally(1);
        is(x, "2 leads", 13, 13, 14, 2, 0, 0);
        CHECK.due("2 wins", x.rally(0), 2);
        is(x, "2 has 15", 13, 13, 15, 2, 2, 1);
        FeatherHall y = allHave(14);
        y.rally(0);
        is(y, "0 has 15", 15, 14, 14, 0, 0, 1);
    }

    /** Two that come to 15 at once. */
    private static void overByBothAtOnce() {
        FeatherHall x = allHave(14);
        is(x, "14 each", 14, 14, 14, 0, 0, 0);
        CHECK.due("not over yet: both at fault", x.rally(2), 0);
        CHECK.due("the two win", x.rally(1), 1);
        is(x, "both have 15", 14, 15, 15, 1, 1, 1);
        CHECK.due("no more", x.rally(1), FeatherHall.NOT);
        CHECK.due("the most points", x.again(), 44);
    }

    /** "No RALLY is told any more": "NOT: OVER", and OUTSIDE comes first. */
    private static void noneIsToldAnyMore() {
        FeatherHall x = allHave(14);
        x.rally(0);
        for (int how = -1; how <= 3; how++) {
            boolean isTold = how >= 0 && how <= 2;
            CHECK.due("how " + how, x.rally(how), isTold ? FeatherHall.NOT : FeatherHall.OUTSIDE);
            is(x, "nothing changed", 15, 14, 14, 0, 0, 1);
        }
    }

    /** "All SCORES 0, 0 SERVES: how many POINTS there were together." */
    private static void againFromTheStart() {
        FeatherHall x = told(1, 1, 0, 0, 2);
        is(x, "told", 1, 1, 4, 2, 2, 0);
        CHECK.due("points", x.again(), 6);
        is(x, "again", 0, 0, 0, 0, 0, 0);
        CHECK.due("none", x.again(), 0);
        CHECK.due("as at first", x.rally(2), 0);
        CHECK.due("as at first", x.rally(1), 1);
    }

    private static void againWhenOver() {
        FeatherHall x = told();
        for (int game = 0; game < 3; game++) {
            for (int point = 1; point <= 15; point++) {
                CHECK.due("0 wins", x.rally(0), 0);
            }
            CHECK.due("over", x.rally(0), FeatherHall.NOT);
            CHECK.due("points", x.again(), 15);
            CHECK.due("not over", x.three(5), 0);
        }
    }
}
